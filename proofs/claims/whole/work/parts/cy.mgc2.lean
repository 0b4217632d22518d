/-! the reference: collecting, what is referred to from outside -/
/-- M moved, all of them as they were; A: the living -/
def gG (S0 S : ox_St) (m ce : Nat) (γ : Int → Nat) (B : List Int) (H : xHp) (A M : List Int) : Prop := gI S0 S m ce γ B H M ∧ (∀ v ∈ M, gRw S0 S m ce γ H M v) ∧ ∀ v ∈ M, v ∈ A
/-- what a phase leaves alone; P: rows that it changes -/
def gPh (m ce : Nat) (P : Nat → Prop) (S S' : ox_St) : Prop := S'.K = S.K ∧ S'.len = S.len ∧ S'.n = S.n ∧ S'.R = S.R ∧ S'.J = S.J ∧ S'.rR = S.rR ∧ S'.rJ = S.rJ ∧ (∀ F a, a ≠ m ∨ F ≠ 75 → S'.I F a = S.I F a) ∧ ∀ a, a ≠ m + ce → a ≠ m + (5 - ce) → (∀ r, P r → a ≠ m + r) → S'.rI a = S.rI a
/-- a value that may be moved -/
def gVl (nc : Nat) (H : xHp) (A B : List Int) (u : Int) : Prop := xOk nc H u ∧ xIn B u ∧ xIn A u
section GC2
variable {sp : ox_E} {d mr sr : Nat} {S S0 S1 S' : ox_St} {Q : ox_Q} {m ce : Nat} {γ : Int → Nat} {A B M M1 M' : List Int} {T : Nat} {nc K : Nat} {u v n : Int} {H : xHp} {P : Nat → Prop}
theorem gPh.refl : gPh m ce P S S := ⟨rfl, rfl, rfl, rfl, rfl, rfl, rfl, fun _ _ _ => rfl, fun _ _ _ _ => rfl⟩
theorem gPh.trans {U : ox_St} (h : gPh m ce P S S') (g : gPh m ce P S' U) : gPh m ce P S U := by
  obtain ⟨h1, h2, h3, h4, h5, h6, h7, h8, h9⟩ := h
  obtain ⟨g1, g2, g3, g4, g5, g6, g7, g8, g9⟩ := g
  exact ⟨g1.trans h1, g2.trans h2, g3.trans h3, g4.trans h4, g5.trans h5, g6.trans h6, g7.trans h7, fun F a z => (g8 F a z).trans (h8 F a z), fun a z1 z2 z3 => (g9 a z1 z2 z3).trans (h9 a z1 z2 z3)⟩
theorem gCh.ph {t : Nat} (h : gCh m ce t S S') : gPh m ce P S S' := ⟨h.1, h.2.1, h.2.2.1, h.2.2.2.1, h.2.2.2.2.1, h.2.2.2.2.2.1, h.2.2.2.2.2.2.1, h.2.2.2.2.2.2.2.1, fun a z1 z2 _ => h.2.2.2.2.2.2.2.2.1 a z1 z2⟩
theorem gPh.wI {r i : Nat} {w : Int32} (h : gPh m ce P S S') (hr : P r) : gPh m ce P S (S'.wI (m + r) i w) := by
  obtain ⟨h1, h2, h3, h4, h5, h6, h7, h8, h9⟩ := h
  exact ⟨(or_wI_K _ _ _ _).trans h1, (or_wI_len _ _ _ _).trans h2, (or_wI_n _ _ _ _).trans h3, (or_wI_R _ _ _ _).trans h4, (or_wI_J _ _ _ _).trans h5, (or_wI_rR _ _ _ _).trans h6, (or_wI_rJ _ _ _ _).trans h7, fun F a z => by rw [or_wI_I]; exact h8 F a z, fun a z1 z2 z3 => funext fun j => by
    rw [or_wI_rI, if_neg (fun y => z3 r hr y.1)]
    exact congrFun (h9 a z1 z2 z3) j⟩
theorem gG.wI {r i : Nat} {w : Int32} (h : gG S0 S m ce γ B H A M) (hr : 4 ≤ r) : gG S0 (S.wI (m + r) i w) m ce γ B H A M := by
  obtain ⟨⟨h1, h2, h3, h4, h5⟩, h6, h7⟩ := h
  have hce := h1.2.2.1
  have er : ∀ a j, a ≠ m + r → (S.wI (m + r) i w).rI a j = S.rI a j := fun a j z => by rw [or_wI_rI, if_neg (fun y => z y.1)]
  refine ⟨⟨h1.next (or_wI_K _ _ _ _) (or_wI_len _ _ _ _) (fun F => by rw [or_wI_R]), h2, by rw [or_wI_I]; exact h3, fun v hv => by rw [er _ _ (by omega)]; exact h4 v hv, fun j hj => by rw [er _ _ (by omega)]; exact h5 j hj⟩, fun v hv k hk => by rw [er _ _ (by omega)]; exact h6 v hv k hk, h7⟩
/-- one value is moved -/
theorem r_mv (hsp : ox_mono sp) (h0 : rHp S0 (m + ce) γ B H T) (hH : xHOk nc K H n) (hnc : nc ≤ 300) (hA : 16 + xSzA H A ≤ 1100000) (hG : gG S0 S m ce γ B H A M) (hu : gVl nc H A B u) (hQ : ∀ S' M', gX M M' → xIn M' u → gG S0 S' m ce γ B H A M' → gCh m ce (16 + xSzA H M) S S' → Q (some (.inl (gV (gD H M') u))) S') : ox_M sp (d + 2) 130 [.inr (.inr m), .inl (gV γ u)] mr sr S Q := by
  obtain ⟨g1, g2, g3⟩ := hG
  obtain ⟨ok, hB, hAu⟩ := hu
  have nd := g1.2.1.1
  have le := (xSzA_sub (H := H) nd g3).1
  refine r_130 hsp h0 hH hnc g1 hB ok (by omega) (fun u16 uM => ?_) (fun S' M' hM hin hI hc hr => ?_)
  · have := (xSzA_sub (H := H) (M := u :: M) (A := A) (List.nodup_cons.mpr ⟨uM, nd⟩) (fun v hv => by
      rcases List.mem_cons.mp hv with z | z
      · rw [z]; exact hAu.resolve_left (by omega)
      · exact g3 v z)).1
    omega
  · have gx : gX M M' := by
      rcases hM with z | ⟨z1, z2, z3⟩
      · rw [z]; exact gX.refl nd
      · exact ⟨[u], z3, by rw [z3]; exact List.nodup_cons.mpr ⟨z2, nd⟩⟩
    refine hQ S' M' gx hin ⟨hI, fun v hv => ?_, fun v hv => ?_⟩ hc
    · by_cases z : v ∈ M
      · intro k hk
        have e1 : gD H M' v = gD H M v := by
          obtain ⟨N, n1, n2⟩ := gx
          rw [n1] at n2 ⊢
          exact gD_app n2 z
        have := (gD_mem (H := H) z).2
        rw [e1, hc.2.2.2.2.2.2.2.2.2 _ (by omega)]
        exact g2 v z k hk
      · exact hr v hv z
    · rcases hM with z | ⟨z1, z2, z3⟩
      · rw [z] at hv; exact g3 v hv
      · rw [z3] at hv
        rcases List.mem_cons.mp hv with w | w
        · rw [w]; exact hAu.resolve_left (by omega)
        · exact g3 v w
/-- constants -/
theorem r_131_8 (hsp : ox_mono sp) (h0 : rHp S0 (m + ce) γ B H T) (hH : xHOk nc K H n) (hnc : nc ≤ 300) (hA : 16 + xSzA H A ≤ 1100000) {Kn : Nat} {kv : Nat → Int} (hK : Kn ≤ 2100) (hkv : ∀ i, i < Kn → gVl nc H A B (kv i)) (hrow : ∀ i, i < Kn → S1.rI (m + 14) i = gV γ (kv i)) (h87 : S1.I 87 m = nI Kn) (hQ : ∀ S' M' mr sr, gX M1 M' → gG S0 S' m ce γ B H A M' → gPh m ce (fun r => r = 14) S1 S' → (∀ i, i < Kn → S'.rI (m + 14) i = gV (gD H M') (kv i) ∧ xIn M' (kv i)) → c_131_40 (ox_M sp (d + 2)) m (nI 0) S' mr sr Q) : ∀ (k i mr sr : Nat) (U : ox_St) (M : List Int), i + k = Kn → gX M1 M → gG S0 U m ce γ B H A M → gPh m ce (fun r => r = 14) S1 U → (∀ j, j < i → U.rI (m + 14) j = gV (gD H M) (kv j) ∧ xIn M (kv j)) → (∀ j, i ≤ j → U.rI (m + 14) j = S1.rI (m + 14) j) → c_131_8 (ox_M sp (d + 2)) m (nI i) U mr sr Q := by
  have hE : ox_mono (ox_M sp (d + 2)) := ox_M_mono hsp _
  intro k
  induction k with
  | zero =>
    intro i mr sr U M hi gx hG ph hd hr
    have hi' : i = Kn := hi
    subst hi'
    have e87 : U.I 87 m = nI i := (ph.2.2.2.2.2.2.2.1 87 m (Or.inr (by decide))).trans h87
    exact f_131_8 hE ⟨by rw [hG.1.1.1]; rfl, fun _ => hQ U M mr sr gx hG ph hd, fun z => absurd (by rw [e87]; exact nI_le (Nat.le_refl _) (by omega)) z⟩
  | succ k ih =>
    intro i mr sr U M hi gx hG ph hd hr
    have e87 : U.I 87 m = nI Kn := (ph.2.2.2.2.2.2.2.1 87 m (Or.inr (by decide))).trans h87
    have ml := hG.1.1
    have hce := ml.2.2.1
    obtain ⟨a1, a2, a3⟩ := ml.row (F := 90) (o := 14) (k := 15) (n := 2100) (by decide)
    refine f_131_8 hE ⟨by rw [ml.1]; rfl, fun z => absurd z (by rw [e87]; exact nI_ge (by omega) (by omega)), fun _ => ⟨by rw [ml.1]; rfl, by rw [ml.1]; rfl, by rw [a1, a2]; rfl, by rw [a1, a3]; exact vp_in_nI (by omega) (by decide), by decide, ml.1, by decide, 0, 0, Nat.zero_le _, Nat.zero_le _, ?_⟩⟩
    rw [a1, nI_clamp (show i < 2 ^ 31 by omega), hr i (Nat.le_refl _), hrow i (by omega)]
    refine r_mv hsp h0 hH hnc hA hG (hkv i (by omega)) (fun S' M' gx' hin hG' hc => f_131_31 hE ?_)
    refine ⟨by rw [hc.1]; exact a2, by rw [hc.2.1, a3]; exact vp_in_nI (by omega) (by decide), ?_⟩
    rw [nI_clamp (show i < 2 ^ 31 by omega), nI_1]
    have er : ∀ j, (S'.wI (m + 14) i (gV (gD H M') (kv i))).rI (m + 14) j = if j = i then gV (gD H M') (kv i) else U.rI (m + 14) j := fun j => by
      rw [or_wI_rI, hc.2.2.2.2.2.2.2.2.1 (m + 14) (by omega) (by omega)]
      simp only [true_and]
    refine ih (i + 1) _ _ _ M' (by omega) (gx.trans gx') (hG'.wI (by omega)) ((ph.trans hc.ph).wI rfl) (fun j hj => ?_) (fun j hj => by rw [er, if_neg (by omega)]; exact hr j (by omega))
    by_cases z : j = i
    · rw [er, if_pos z, z]; exact ⟨rfl, hin⟩
    · obtain ⟨d1, d2⟩ := hd j (by omega)
      obtain ⟨x1, x2⟩ := gx'.in (H := H) d2
      rw [er, if_neg z, x2]
      exact ⟨d1, x1⟩
/-- names -/
theorem r_131_40 (hsp : ox_mono sp) (h0 : rHp S0 (m + ce) γ B H T) (hH : xHOk nc K H n) (hnc : nc ≤ 300) (hA : 16 + xSzA H A ≤ 1100000) {Kn : Nat} {kv : Nat → Int} (hK : Kn ≤ 16) (hkv : ∀ i, i < Kn → gVl nc H A B (kv i)) (hrow : ∀ i, i < Kn → S1.rI (m + 25) i = gV γ (kv i)) (h87 : S1.I 106 m = nI Kn) (hQ : ∀ S' M' mr sr, gX M1 M' → gG S0 S' m ce γ B H A M' → gPh m ce (fun r => r = 25) S1 S' → (∀ i, i < Kn → S'.rI (m + 25) i = gV (gD H M') (kv i) ∧ xIn M' (kv i)) → c_131_72 (ox_M sp (d + 2)) m (nI 0) S' mr sr Q) : ∀ (k i mr sr : Nat) (U : ox_St) (M : List Int), i + k = Kn → gX M1 M → gG S0 U m ce γ B H A M → gPh m ce (fun r => r = 25) S1 U → (∀ j, j < i → U.rI (m + 25) j = gV (gD H M) (kv j) ∧ xIn M (kv j)) → (∀ j, i ≤ j → U.rI (m + 25) j = S1.rI (m + 25) j) → c_131_40 (ox_M sp (d + 2)) m (nI i) U mr sr Q := by
  have hE : ox_mono (ox_M sp (d + 2)) := ox_M_mono hsp _
  intro k
  induction k with
  | zero =>
    intro i mr sr U M hi gx hG ph hd hr
    have hi' : i = Kn := hi
    subst hi'
    have e87 : U.I 106 m = nI i := (ph.2.2.2.2.2.2.2.1 106 m (Or.inr (by decide))).trans h87
    exact f_131_40 hE ⟨by rw [hG.1.1.1]; rfl, fun _ => hQ U M mr sr gx hG ph hd, fun z => absurd (by rw [e87]; exact nI_le (Nat.le_refl _) (by omega)) z⟩
  | succ k ih =>
    intro i mr sr U M hi gx hG ph hd hr
    have e87 : U.I 106 m = nI Kn := (ph.2.2.2.2.2.2.2.1 106 m (Or.inr (by decide))).trans h87
    have ml := hG.1.1
    have hce := ml.2.2.1
    obtain ⟨a1, a2, a3⟩ := ml.row (F := 108) (o := 25) (k := 15) (n := 16) (by decide)
    refine f_131_40 hE ⟨by rw [ml.1]; rfl, fun z => absurd z (by rw [e87]; exact nI_ge (by omega) (by omega)), fun _ => ⟨by rw [ml.1]; rfl, by rw [ml.1]; rfl, by rw [a1, a2]; rfl, by rw [a1, a3]; exact vp_in_nI (by omega) (by decide), by decide, ml.1, by decide, 0, 0, Nat.zero_le _, Nat.zero_le _, ?_⟩⟩
    rw [a1, nI_clamp (show i < 2 ^ 31 by omega), hr i (Nat.le_refl _), hrow i (by omega)]
    refine r_mv hsp h0 hH hnc hA hG (hkv i (by omega)) (fun S' M' gx' hin hG' hc => f_131_63 hE ?_)
    refine ⟨by rw [hc.1]; exact a2, by rw [hc.2.1, a3]; exact vp_in_nI (by omega) (by decide), ?_⟩
    rw [nI_clamp (show i < 2 ^ 31 by omega), nI_1]
    have er : ∀ j, (S'.wI (m + 25) i (gV (gD H M') (kv i))).rI (m + 25) j = if j = i then gV (gD H M') (kv i) else U.rI (m + 25) j := fun j => by
      rw [or_wI_rI, hc.2.2.2.2.2.2.2.2.1 (m + 25) (by omega) (by omega)]
      simp only [true_and]
    refine ih (i + 1) _ _ _ M' (by omega) (gx.trans gx') (hG'.wI (by omega)) ((ph.trans hc.ph).wI rfl) (fun j hj => ?_) (fun j hj => by rw [er, if_neg (by omega)]; exact hr j (by omega))
    by_cases z : j = i
    · rw [er, if_pos z, z]; exact ⟨rfl, hin⟩
    · obtain ⟨d1, d2⟩ := hd j (by omega)
      obtain ⟨x1, x2⟩ := gx'.in (H := H) d2
      rw [er, if_neg z, x2]
      exact ⟨d1, x1⟩
/-- how far the frames are: their stacks -/
def gS (U : ox_St) (m : Nat) (γ : Int → Nat) (H : xHp) (M : List Int) (F : Nat) (fr : Nat → xFr) (f k : Nat) : Prop := ∀ g, g < F → ∀ j, j < (fr g).2.2.1.length → ((g < f ∨ (g = f ∧ j < k)) → U.rI (m + 20) (10 * g + j) = gV (gD H M) ((fr g).2.2.1.getD ((fr g).2.2.1.length - 1 - j) 0) ∧ xIn M ((fr g).2.2.1.getD ((fr g).2.2.1.length - 1 - j) 0)) ∧ (¬ (g < f ∨ (g = f ∧ j < k)) → U.rI (m + 20) (10 * g + j) = gV γ ((fr g).2.2.1.getD ((fr g).2.2.1.length - 1 - j) 0))
/-- their locals -/
def gL (U : ox_St) (m : Nat) (γ : Int → Nat) (H : xHp) (M : List Int) (F : Nat) (fr : Nat → xFr) (f k : Nat) : Prop := ∀ g, g < F → ∀ j, j < 8 → ((fr g).2.2.2.1 j = none → U.rI (m + 21) (8 * g + j) = -1000000) ∧ ∀ w, (fr g).2.2.2.1 j = some w → ((g < f ∨ (g = f ∧ j < k)) → U.rI (m + 21) (8 * g + j) = gV (gD H M) w ∧ xIn M w) ∧ (¬ (g < f ∨ (g = f ∧ j < k)) → U.rI (m + 21) (8 * g + j) = gV γ w)
theorem gS.next {U U' : ox_St} {F f k : Nat} {fr : Nat → xFr} (h : gS U m γ H M F fr f k) (gx : gX M M') (hr : U'.rI (m + 20) = U.rI (m + 20)) : gS U' m γ H M' F fr f k := fun g hg j hj => by
  obtain ⟨h1, h2⟩ := h g hg j hj
  rw [hr]
  refine ⟨fun z => ?_, h2⟩
  obtain ⟨a1, a2⟩ := h1 z
  obtain ⟨x1, x2⟩ := gx.in (H := H) a2
  exact ⟨by rw [x2]; exact a1, x1⟩
theorem gL.next {U U' : ox_St} {F f k : Nat} {fr : Nat → xFr} (h : gL U m γ H M F fr f k) (gx : gX M M') (hr : U'.rI (m + 21) = U.rI (m + 21)) : gL U' m γ H M' F fr f k := fun g hg j hj => by
  obtain ⟨h1, h2⟩ := h g hg j hj
  rw [hr]
  refine ⟨h1, fun w hw => ⟨fun z => ?_, (h2 w hw).2⟩⟩
  obtain ⟨a1, a2⟩ := (h2 w hw).1 z
  obtain ⟨x1, x2⟩ := gx.in (H := H) a2
  exact ⟨by rw [x2]; exact a1, x1⟩
/-- the frames' values may be moved -/
def gFr (nc : Nat) (H : xHp) (A B : List Int) (F : Nat) (fr : Nat → xFr) (S : ox_St) (m : Nat) : Prop := F ≤ 8 ∧ S.I 92 m = nI F ∧ ∀ g, g < F → (fr g).2.2.1.length ≤ 10 ∧ S.rI (m + 18) g = nI (fr g).2.2.1.length ∧ (∀ u ∈ (fr g).2.2.1, gVl nc H A B u) ∧ ∀ j w, (fr g).2.2.2.1 j = some w → gVl nc H A B w
theorem r_131_126 (hsp : ox_mono sp) (h0 : rHp S0 (m + ce) γ B H T) (hH : xHOk nc K H n) (hnc : nc ≤ 300) (hA : 16 + xSzA H A ≤ 1100000) {F f : Nat} {fr : Nat → xFr} (hf : f < F) (hF : gFr nc H A B F fr S1 m) (hQ : ∀ S' M' mr sr, gX M1 M' → gG S0 S' m ce γ B H A M' → gPh m ce (fun r => r = 20 ∨ r = 21) S1 S' → gS S' m γ H M' F fr (f + 1) 0 → gL S' m γ H M' F fr (f + 1) 0 → c_131_72 (ox_M sp (d + 2)) m (nI (f + 1)) S' mr sr Q) : ∀ (k i mr sr : Nat) (U : ox_St) (M : List Int), i + k = 8 → gX M1 M → gG S0 U m ce γ B H A M → gPh m ce (fun r => r = 20 ∨ r = 21) S1 U → gS U m γ H M F fr (f + 1) 0 → gL U m γ H M F fr f i → c_131_126 (ox_M sp (d + 2)) m (nI f) (nI i) U mr sr Q := by
  have hE : ox_mono (ox_M sp (d + 2)) := ox_M_mono hsp _
  have F8 := hF.1
  intro k
  induction k with
  | zero =>
    intro i mr sr U M hi gx hG ph hs hl
    have hi' : i = 8 := hi
    subst hi'
    refine f_131_126 hE ⟨fun _ => ?_, fun z => absurd (show (8 : Int32) ≤ nI 8 by decide) z⟩
    rw [nI_1]
    refine hQ U M mr sr gx hG ph hs (fun g hg j hj => ?_)
    obtain ⟨h1, h2⟩ := hl g hg j hj
    exact ⟨h1, fun w hw => ⟨fun z => (h2 w hw).1 (by omega), fun z => (h2 w hw).2 (by omega)⟩⟩
  | succ k ih =>
    intro i mr sr U M hi gx hG ph hs hl
    have ml := hG.1.1
    have hce := ml.2.2.1
    obtain ⟨a1, a2, a3⟩ := ml.row (F := 103) (o := 21) (k := 15) (n := 64) (by decide)
    have e8 : (8 : Int32) * nI f + nI i = nI (8 * f + i) := by rw [show (8 : Int32) = nI 8 from rfl, pk_mul, nI_add]
    obtain ⟨h1, h2⟩ := hl f hf i (by omega)
    have go : ∀ (S' : ox_St) (M' : List Int) (w : Int32) mr sr, gX M M' → gG S0 S' m ce γ B H A M' → gCh m ce (16 + xSzA H M) U S' → ((fr f).2.2.2.1 i = none → w = -1000000) → (∀ v, (fr f).2.2.2.1 i = some v → w = gV (gD H M') v ∧ xIn M' v) → k_131_178 (ox_M sp (d + 2)) m (nI f) (nI i) (nI (8 * f + i)) (m + 21) mr sr Q (some (.inl w)) S' := fun S' M' w mr sr gx' hG' hc w0 w1 => by
      refine f_131_178 hE ⟨by rw [hc.1]; exact a2, by rw [hc.2.1, a3]; exact vp_in_nI (by omega) (by decide), ?_⟩
      rw [nI_clamp (show 8 * f + i < 2 ^ 31 by omega), nI_1]
      have er : ∀ j, (S'.wI (m + 21) (8 * f + i) w).rI (m + 21) j = if j = 8 * f + i then w else U.rI (m + 21) j := fun j => by
        rw [or_wI_rI, hc.2.2.2.2.2.2.2.2.1 (m + 21) (by omega) (by omega)]
        simp only [true_and]
      have e20 : (S'.wI (m + 21) (8 * f + i) w).rI (m + 20) = U.rI (m + 20) := funext fun j => by rw [or_wI_rI, if_neg (fun y => by have := y.1; omega), hc.2.2.2.2.2.2.2.2.1 (m + 20) (by omega) (by omega)]
      refine ih (i + 1) _ _ _ M' (by omega) (gx.trans gx') (hG'.wI (by omega)) ((ph.trans hc.ph).wI (Or.inr rfl)) (hs.next gx' e20) (fun g hg j hj => ?_)
      obtain ⟨l1, l2⟩ := hl g hg j hj
      rw [er]
      by_cases z : 8 * g + j = 8 * f + i
      · have zg : g = f := by omega
        have zj : j = i := by omega
        subst zg
        subst zj
        rw [if_pos rfl]
        exact ⟨w0, fun v hv => ⟨fun _ => w1 v hv, fun y => absurd (Or.inr ⟨rfl, Nat.lt_succ_self _⟩) y⟩⟩
      · rw [if_neg z]
        refine ⟨l1, fun v hv => ⟨fun y => ?_, fun y => (l2 v hv).2 (by omega)⟩⟩
        obtain ⟨b1, b2⟩ := (l2 v hv).1 (by omega)
        obtain ⟨x1, x2⟩ := gx'.in (H := H) b2
        exact ⟨by rw [x2]; exact b1, x1⟩
    refine f_131_126 hE ⟨fun z => absurd z (nI_ge (b := 8) (by omega) (by decide)), fun _ => ⟨by rw [ml.1]; rfl, by rw [ml.1]; rfl, by rw [a1, a2]; rfl, by rw [a1, a3, e8]; exact vp_in_nI (by omega) (by decide), ?_⟩⟩
    rw [a1, a2, a3, ml.1, e8, nI_clamp (show 8 * f + i < 2 ^ 31 by omega)]
    cases el : (fr f).2.2.2.1 i with
    | none =>
      rw [h1 el]
      exact ⟨fun z => absurd rfl z, fun _ => go U M _ _ _ (gX.refl hG.1.2.1.1) hG gCh.refl (fun _ => rfl) (fun v hv => by rw [el] at hv; cases hv)⟩
    | some v =>
      have hv := (hF.2.2 f hf).2.2.2 i v el
      have row := ((h2 v el).2 (by omega))
      have ne : ¬ gV γ v = -1000000 := fun z => by
        obtain ⟨ok, hB, -⟩ := hv
        by_cases w : v < 16
        · have e0 : H v = none := by
            cases e1 : H v with
            | none => rfl
            | some o => have := (hH.2 v o e1).1; omega
          have lo : -300 ≤ v := by
            rcases ok with y | y
            · omega
            · exact absurd e0 y
          rw [show gV γ v = Int32.ofInt v from if_pos w] at z
          have := congrArg Int32.toInt z
          rw [Int32.toInt_ofInt_of_le (by omega) (by omega), show (-1000000 : Int32).toInt = -1000000 from by decide] at this
          omega
        · obtain ⟨o, e1, r1, r2, r3⟩ := h0.cell hB (by omega)
          have sz := xSz_2 o
          rw [show gV γ v = nI (γ v) from if_neg w] at z
          have := congrArg Int32.toInt z
          rw [nI_toInt (by omega), show (-1000000 : Int32).toInt = -1000000 from by decide] at this
          omega
      rw [row]
      refine ⟨fun _ => ⟨rfl, rfl, vp_in_nI (by omega) (by decide), by decide, rfl, by decide, 0, 0, Nat.zero_le _, Nat.zero_le _, ?_⟩, fun z => absurd z ne⟩
      exact r_mv hsp h0 hH hnc hA hG hv (fun S' M' gx' hin hG' hc => go S' M' _ _ _ gx' hG' hc (fun z => by rw [el] at z; cases z) (fun v' hv' => by rw [el] at hv'; cases hv'; exact ⟨rfl, hin⟩))
theorem r_131_82 (hsp : ox_mono sp) (h0 : rHp S0 (m + ce) γ B H T) (hH : xHOk nc K H n) (hnc : nc ≤ 300) (hA : 16 + xSzA H A ≤ 1100000) {F f : Nat} {fr : Nat → xFr} (hf : f < F) (hF : gFr nc H A B F fr S1 m) (hQ : ∀ S' M' mr sr, gX M1 M' → gG S0 S' m ce γ B H A M' → gPh m ce (fun r => r = 20 ∨ r = 21) S1 S' → gS S' m γ H M' F fr (f + 1) 0 → gL S' m γ H M' F fr (f + 1) 0 → c_131_72 (ox_M sp (d + 2)) m (nI (f + 1)) S' mr sr Q) : ∀ (k i mr sr : Nat) (U : ox_St) (M : List Int), i + k = (fr f).2.2.1.length → gX M1 M → gG S0 U m ce γ B H A M → gPh m ce (fun r => r = 20 ∨ r = 21) S1 U → gS U m γ H M F fr f i → gL U m γ H M F fr f 0 → c_131_82 (ox_M sp (d + 2)) m (nI f) (nI i) U mr sr Q := by
  have hE : ox_mono (ox_M sp (d + 2)) := ox_M_mono hsp _
  have F8 := hF.1
  obtain ⟨l10, h18, hvs, -⟩ := hF.2.2 f hf
  intro k
  induction k with
  | zero =>
    intro i mr sr U M hi gx hG ph hs hl
    have hi' : i = (fr f).2.2.1.length := hi
    have ml := hG.1.1
    have hce := ml.2.2.1
    obtain ⟨a1, a2, a3⟩ := ml.row (F := 100) (o := 18) (k := 15) (n := 8) (by decide)
    have e18 : U.rI (m + 18) f = nI i := by rw [ph.2.2.2.2.2.2.2.2 (m + 18) (by omega) (by omega) (fun r z => by omega), hi']; exact h18
    refine f_131_82 hE ⟨by rw [ml.1]; rfl, by rw [a1, a2]; rfl, by rw [a1, a3]; exact vp_in_nI (by omega) (by decide), fun _ => ?_, fun z => absurd (by rw [a1, nI_clamp (show f < 2 ^ 31 by omega), e18]; exact nI_le (Nat.le_refl _) (by omega)) z⟩
    show c_131_126 (ox_M sp (d + 2)) m (nI f) (nI 0) U mr sr Q
    refine r_131_126 hsp h0 hH hnc hA hf hF hQ 8 0 mr sr U M (by omega) gx hG ph (fun g hg j hj => ?_) hl
    obtain ⟨h1, h2⟩ := hs g hg j hj
    refine ⟨fun z => h1 ?_, fun z => h2 ?_⟩
    · by_cases y : g = f
      · subst y; exact Or.inr ⟨rfl, by omega⟩
      · omega
    · intro y
      exact z (by omega)
  | succ k ih =>
    intro i mr sr U M hi gx hG ph hs hl
    have il : i < (fr f).2.2.1.length := by omega
    have ml := hG.1.1
    have hce := ml.2.2.1
    obtain ⟨a1, a2, a3⟩ := ml.row (F := 100) (o := 18) (k := 15) (n := 8) (by decide)
    obtain ⟨b1, b2, b3⟩ := ml.row (F := 102) (o := 20) (k := 15) (n := 80) (by decide)
    have e18 : U.rI (m + 18) f = nI (fr f).2.2.1.length := by rw [ph.2.2.2.2.2.2.2.2 (m + 18) (by omega) (by omega) (fun r z => by omega)]; exact h18
    have e10 : (10 : Int32) * nI f + nI i = nI (10 * f + i) := by rw [show (10 : Int32) = nI 10 from rfl, pk_mul, nI_add]
    refine f_131_82 hE ⟨by rw [ml.1]; rfl, by rw [a1, a2]; rfl, by rw [a1, a3]; exact vp_in_nI (by omega) (by decide), fun z => absurd z (by rw [a1, nI_clamp (show f < 2 ^ 31 by omega), e18]; exact nI_ge il (by omega)), fun _ => ⟨by rw [ml.1]; rfl, by rw [ml.1]; rfl, by rw [b1, b2]; rfl, by rw [b1, b3, e10]; exact vp_in_nI (by omega) (by decide), by decide, ml.1, by decide, 0, 0, Nat.zero_le _, Nat.zero_le _, ?_⟩⟩
    have row := (hs f hf i il).2 (by omega)
    have mem : (fr f).2.2.1.getD ((fr f).2.2.1.length - 1 - i) 0 ∈ (fr f).2.2.1 := by rw [List.getD_eq_getElem?_getD, List.getElem?_eq_getElem (by omega)]; exact List.getElem_mem _
    rw [b1, e10, nI_clamp (show 10 * f + i < 2 ^ 31 by omega), row]
    refine r_mv hsp h0 hH hnc hA hG (hvs _ mem) (fun S' M' gx' hin hG' hc => f_131_117 hE ?_)
    refine ⟨by rw [hc.1]; exact b2, by rw [hc.2.1, b3]; exact vp_in_nI (by omega) (by decide), ?_⟩
    rw [nI_clamp (show 10 * f + i < 2 ^ 31 by omega), nI_1]
    generalize ew : gV (gD H M') ((fr f).2.2.1.getD ((fr f).2.2.1.length - 1 - i) 0) = w
    have er : ∀ j, (S'.wI (m + 20) (10 * f + i) w).rI (m + 20) j = if j = 10 * f + i then w else U.rI (m + 20) j := fun j => by
      rw [or_wI_rI, hc.2.2.2.2.2.2.2.2.1 (m + 20) (by omega) (by omega)]
      simp only [true_and]
    have e21 : (S'.wI (m + 20) (10 * f + i) w).rI (m + 21) = U.rI (m + 21) := funext fun j => by rw [or_wI_rI, if_neg (fun y => by have := y.1; omega), hc.2.2.2.2.2.2.2.2.1 (m + 21) (by omega) (by omega)]
    refine ih (i + 1) _ _ _ M' (by omega) (gx.trans gx') (hG'.wI (by omega)) ((ph.trans hc.ph).wI (Or.inl rfl)) (fun g hg j hj => ?_) (hl.next gx' e21)
    have g10 := (hF.2.2 g hg).1
    obtain ⟨l1, l2⟩ := hs g hg j hj
    rw [er]
    by_cases z : 10 * g + j = 10 * f + i
    · have zg : g = f := by omega
      have zj : j = i := by omega
      subst zg
      subst zj
      rw [if_pos rfl]
      exact ⟨fun _ => ⟨ew.symm, hin⟩, fun y => absurd (Or.inr ⟨rfl, Nat.lt_succ_self _⟩) y⟩
    · rw [if_neg z]
      refine ⟨fun y => ?_, fun y => l2 (by omega)⟩
      obtain ⟨c1, c2⟩ := l1 (by omega)
      obtain ⟨x1, x2⟩ := gx'.in (H := H) c2
      exact ⟨by rw [x2]; exact c1, x1⟩
theorem r_131_72 (hsp : ox_mono sp) (h0 : rHp S0 (m + ce) γ B H T) (hH : xHOk nc K H n) (hnc : nc ≤ 300) (hA : 16 + xSzA H A ≤ 1100000) {F : Nat} {fr : Nat → xFr} (hF : gFr nc H A B F fr S1 m) {w : Int} (hw : gVl nc H A B w) (h97 : S1.I 97 m = gV γ w) (hQ : ∀ S' M' mr sr, gX M1 M' → xIn M' w → gG S0 S' m ce γ B H A M' → gPh m ce (fun r => r = 20 ∨ r = 21) S1 S' → gS S' m γ H M' F fr F 0 → gL S' m γ H M' F fr F 0 → c_131_206 (ox_M sp (d + 2)) m (nI 16) (S'.sI 97 m (gV (gD H M') w)) mr sr Q) : ∀ (k f mr sr : Nat) (U : ox_St) (M : List Int), f + k = F → gX M1 M → gG S0 U m ce γ B H A M → gPh m ce (fun r => r = 20 ∨ r = 21) S1 U → gS U m γ H M F fr f 0 → gL U m γ H M F fr f 0 → c_131_72 (ox_M sp (d + 2)) m (nI f) U mr sr Q := by
  have hE : ox_mono (ox_M sp (d + 2)) := ox_M_mono hsp _
  have F8 := hF.1
  intro k
  induction k with
  | zero =>
    intro f mr sr U M hf gx hG ph hs hl
    have hf' : f = F := hf
    subst hf'
    have ml := hG.1.1
    have hce := ml.2.2.1
    have e92 : U.I 92 m = nI f := (ph.2.2.2.2.2.2.2.1 92 m (Or.inr (by decide))).trans hF.2.1
    have e97 : U.I 97 m = gV γ w := (ph.2.2.2.2.2.2.2.1 97 m (Or.inr (by decide))).trans h97
    refine f_131_72 hE ⟨by rw [ml.1]; rfl, fun _ => ⟨by rw [ml.1]; rfl, by decide, ml.1, by decide, 0, 0, Nat.zero_le _, Nat.zero_le _, ?_⟩, fun z => absurd (by rw [e92]; exact nI_le (Nat.le_refl _) (by omega)) z⟩
    rw [e97]
    refine r_mv hsp h0 hH hnc hA hG hw (fun S' M' gx' hin hG' hc => f_131_200 hE ⟨by rw [hc.1, ml.1]; rfl, ?_⟩)
    exact hQ S' M' _ _ (gx.trans gx') hin hG' (ph.trans hc.ph) (hs.next gx' (hc.2.2.2.2.2.2.2.2.1 (m + 20) (by omega) (by omega))) (hl.next gx' (hc.2.2.2.2.2.2.2.2.1 (m + 21) (by omega) (by omega)))
  | succ k ih =>
    intro f mr sr U M hf gx hG ph hs hl
    have ml := hG.1.1
    have e92 : U.I 92 m = nI F := (ph.2.2.2.2.2.2.2.1 92 m (Or.inr (by decide))).trans hF.2.1
    refine f_131_72 hE ⟨by rw [ml.1]; rfl, fun z => absurd z (by rw [e92]; exact nI_ge (by omega) (by omega)), fun _ => ?_⟩
    show c_131_82 (ox_M sp (d + 2)) m (nI f) (nI 0) U mr sr Q
    exact r_131_82 hsp h0 hH hnc hA (by omega) hF (fun S' M' mr sr b1 b2 b3 b4 b5 => ih (f + 1) mr sr S' M' (by omega) b1 b2 b3 b4 b5) (fr f).2.2.1.length 0 mr sr U M (by omega) gx hG ph hs hl
end GC2
