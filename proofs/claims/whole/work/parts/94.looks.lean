/-! the class's Looker: lookAt, passes -/
/-- one way after the other is come to -/
def cm1 (κ : oCd) (P : Nat → Option oHB) (q : Nat × oHB) : Prop := plW κ q.1 ∧ q.2.1 ≤ cdM κ ∧ (P q.1 = none ∨ P q.1 = some q.2)
def upL : List (Nat × oHB) → (Nat → Option oHB) → Nat → Option oHB
  | [], P => P
  | q :: l, P => upL l (upS P q.1 q.2)
def cmL (κ : oCd) : List (Nat × oHB) → (Nat → Option oHB) → Prop
  | [], _ => True
  | q :: l, P => cm1 κ P q ∧ cmL κ l (upS P q.1 q.2)
/-- a table within another -/
def tbL (P T : Nat → Option oHB) : Prop := ∀ p s, P p = some s → T p = some s
theorem upS_at (P : Nat → Option oHB) (q : Nat) (t : oHB) : upS P q t q = some t := if_pos rfl
theorem upS_le {κ : oCd} {P : Nat → Option oHB} {q : Nat × oHB} (h : cm1 κ P q) : tbL P (upS P q.1 q.2) := by
  intro p s hp
  unfold upS
  by_cases e : p = q.1
  · rw [if_pos e]
    rw [e] at hp
    rcases h.2.2 with g | g
    · rw [g] at hp; cases hp
    · rw [g] at hp; exact hp
  · rw [if_neg e]; exact hp
theorem cmL_le {κ : oCd} : ∀ (l : List (Nat × oHB)) (P : Nat → Option oHB), cmL κ l P → tbL P (upL l P)
  | [], _, _ => fun _ _ h => h
  | q :: l, P, h => fun p s hp => cmL_le l _ h.2 p s (upS_le h.1 p s hp)
theorem cmL_at {κ : oCd} : ∀ (l : List (Nat × oHB)) (P : Nat → Option oHB), cmL κ l P → ∀ q ∈ l, upL l P q.1 = some q.2
  | [], _, _, q, hq => absurd hq List.not_mem_nil
  | r :: l, P, h, q, hq => by
    rcases List.mem_cons.mp hq with e | e
    · subst e; exact cmL_le l _ h.2 _ _ (upS_at P q.1 q.2)
    · exact cmL_at l _ h.2 q e
theorem cmL_pl {κ : oCd} : ∀ (l : List (Nat × oHB)) (P : Nat → Option oHB), cmL κ l P → (∀ p s, P p = some s → plW κ p ∧ s.1 ≤ cdM κ) → ∀ p s, upL l P p = some s → plW κ p ∧ s.1 ≤ cdM κ
  | [], _, _, h => h
  | q :: l, P, hc, h => cmL_pl l _ hc.2 (fun p s hp => by
    unfold upS at hp
    by_cases e : p = q.1
    · rw [if_pos e] at hp
      have := Option.some.inj hp
      rw [e, ← this]; exact ⟨hc.1.1, hc.1.2.1⟩
    · rw [if_neg e] at hp; exact h p s hp)
/-- within a closed table nothing stands in the way -/
theorem cmL_of {κ : oCd} {T : Nat → Option oHB} (hT : okT κ T) : ∀ (l : List (Nat × oHB)) (P : Nat → Option oHB), tbL P T → (∀ q ∈ l, T q.1 = some q.2) → cmL κ l P ∧ tbL (upL l P) T
  | [], _, h, _ => ⟨trivial, h⟩
  | q :: l, P, h, hl => by
    have hq := hl q List.mem_cons_self
    obtain ⟨h1, h2, -⟩ := hT.2 q.1 q.2 hq
    have hc : cm1 κ P q := ⟨h1, h2, by
      cases e : P q.1 with
      | none => exact Or.inl rfl
      | some t =>
        have := h _ _ e
        rw [hq] at this
        exact Or.inr this.symm⟩
    have hs : tbL (upS P q.1 q.2) T := fun p s hp => by
      unfold upS at hp
      by_cases e : p = q.1
      · rw [if_pos e] at hp; rw [e, hq]; exact hp
      · rw [if_neg e] at hp; exact h p s hp
    obtain ⟨g1, g2⟩ := cmL_of hT l _ hs (fun r hr => hl r (List.mem_cons_of_mem q hr))
    exact ⟨⟨hc, g1⟩, g2⟩
theorem lkS.keep {S S' : ox_St} {x c n : Nat} {κ : oCd} {P : Nat → Option oHB} {f : Nat → Nat} (h : lkS S x c κ P n f) (ht : S.R 10 c < x + 4 ∨ x + 10 < S.R 10 c) (g : lkF x S S') (hr : ∀ a, x + 4 ≤ a → a ≤ x + 8 → S'.rI a = S.rI a) (h28 : S'.I 28 (x + 3) = S.I 28 (x + 3)) (h29 : S'.R 29 (x + 3) = S.R 29 (x + 3)) : lkS S' x c κ P n f := by
  obtain ⟨a1, a2, a3, a4, a5, a6, a7, a8, a9, a10⟩ := h
  have k3 := a1.obj (o := 3) (k := 6) (by decide)
  refine ⟨a1.lk g, h29.trans a2, a3.lk g k3 ht, fun s hs => ?_, a5, h28.trans a6, fun i hi => by rw [hr _ (by omega) (by omega)]; exact a7 i hi, a8, a9, a10⟩
  have := a4 s hs
  unfold lkE at this ⊢
  rw [hr _ (by omega) (by omega), hr _ (by omega) (by omega), hr _ (by omega) (by omega), hr _ (by omega) (by omega)]
  exact this
theorem lkF.code {S S' : ox_St} {x c : Nat} (g : lkF x S S') (hx : S.K (x + 3) = 6) (hc : S.K c = 3) : S'.R 10 c = S.R 10 c := g.2.2.2.2.2.2.1 10 c (Or.inl (fun e => by rw [e, hx] at hc; exact absurd hc (by decide)))
section OLS
variable {sp : ox_E} {d mr sr : Nat} {S : ox_St} {Q : ox_Q} {x c n : Nat} {κ : oCd} {P : Nat → Option oHB} {f : Nat → Nat}
theorem s_32_22 {E : ox_E} (hE : ox_mono E) {s b : Nat} {lv hd : Nat → Nat} (hs : s < 80) (hb : b ≤ 4) : ∀ (r i : Nat) (S : ox_St), i + r = b → oCL S x → S.I 33 (x + 3) = nI b → (∀ i, i < b → S.rI (x + 6) (4 * s + i) = nI (lv i) ∧ S.rI (x + 7) (4 * s + i) = nI (hd i)) → (∀ S', lkF x S S' → S'.I = S.I → S'.R = S.R → (∀ a, a ≠ x + 9 → a ≠ x + 10 → S'.rI a = S.rI a) → (∀ z, z < b → S'.rI (x + 9) z = if i ≤ z then nI (lv z) else S.rI (x + 9) z) → (∀ z, z < b → S'.rI (x + 10) z = if i ≤ z then nI (hd z) else S.rI (x + 10) z) → Q none S') → c_32_22 E (x + 3) (nI s) (nI i) S mr sr Q
  | 0, i, S, hi, hC, h33, he, hQ => by
    obtain rfl : i = b := by omega
    have k3 := hC.obj (o := 3) (k := 6) (by decide)
    refine f_32_22 hE ⟨by rw [k3]; rfl, fun _ => ⟨rfl, hQ S lkF.refl rfl rfl (fun _ _ _ => rfl) (fun z hz => by rw [if_neg (by omega)]) (fun z hz => by rw [if_neg (by omega)])⟩, fun z => absurd ?_ z⟩
    rw [h33]
    exact nI_le (Nat.le_refl i) (by omega)
  | r + 1, i, S, hi, hC, h33, he, hQ => by
    have hib : i < b := by omega
    obtain ⟨e1, e2⟩ := he i hib
    have k3 := hC.obj (o := 3) (k := 6) (by decide)
    have R25 : S.R 25 (x + 3) = x + 6 := hC.ref (by decide)
    have R26 : S.R 26 (x + 3) = x + 7 := hC.ref (by decide)
    have R30 : S.R 30 (x + 3) = x + 9 := hC.ref (by decide)
    have R31 : S.R 31 (x + 3) = x + 10 := hC.ref (by decide)
    obtain ⟨a1, a2⟩ := hC.row (o := 6) (k := 15) (n := 320) (by decide)
    obtain ⟨a3, a4⟩ := hC.row (o := 7) (k := 15) (n := 320) (by decide)
    obtain ⟨a5, a6⟩ := hC.row (o := 9) (k := 15) (n := 4) (by decide)
    obtain ⟨a7, a8⟩ := hC.row (o := 10) (k := 15) (n := 4) (by decide)
    have em : nI s * 4 + nI i = nI (4 * s + i) := by rw [show (4 : Int32) = nI 4 from rfl, pk_mul, nI_add, Nat.mul_comm]
    refine f_32_22 hE ?_
    unfold q_32_22
    rw [em, k3, h33, R25, R30, a1, a2, a5, a6, nI_clamp (n := 4 * s + i) (by omega), nI_clamp (n := i) (by omega), e1]
    refine ⟨rfl, fun z => absurd z (nI_ge hib (by omega)), fun _ => ⟨fun z => absurd z (nI_ge (b := 4) (by omega) (by decide)), fun _ => ⟨rfl, rfl, rfl, vp_in_nI (by omega) (by decide), rfl, vp_in_nI (by omega) (by decide), ?_⟩⟩⟩
    show ox_has (S.K (x + 3)) 31 = true ∧ ox_has (S.K (x + 3)) 26 = true ∧ ox_rdI (S.K (S.R 26 (x + 3))) = true ∧ vp_in (nI (4 * s + i)) (S.len (S.R 26 (x + 3))) ∧ S.K (S.R 31 (x + 3)) = 15 ∧ vp_in (nI i) (S.len (S.R 31 (x + 3))) ∧ c_32_22 E (x + 3) (nI s) (nI i + 1) ((S.wI (x + 9) i (nI (lv i))).wI (S.R 31 (x + 3)) i ((S.wI (x + 9) i (nI (lv i))).rI (S.R 26 (x + 3)) (4 * s + i))) mr sr Q
    rw [k3, R26, R31, a3, a4, a7, a8, nI_1, or_wI_rI, if_neg (fun e => by omega), e2]
    refine ⟨rfl, rfl, rfl, vp_in_nI (by omega) (by decide), rfl, vp_in_nI (by omega) (by decide), ?_⟩
    have g : lkF x S ((S.wI (x + 9) i (nI (lv i))).wI (x + 10) i (nI (hd i))) := (lkF_wI (by omega) (by omega)).trans (lkF_wI (by omega) (by omega))
    have e9 : ∀ z, ((S.wI (x + 9) i (nI (lv i))).wI (x + 10) i (nI (hd i))).rI (x + 9) z = if z = i then nI (lv i) else S.rI (x + 9) z := fun z => by
      rw [or_wI_rI, if_neg (fun e => by omega), or_wI_rI]
      by_cases e : z = i
      · rw [if_pos ⟨rfl, e⟩, if_pos e]
      · rw [if_neg (fun y => e y.2), if_neg e]
    have e10 : ∀ z, ((S.wI (x + 9) i (nI (lv i))).wI (x + 10) i (nI (hd i))).rI (x + 10) z = if z = i then nI (hd i) else S.rI (x + 10) z := fun z => by
      rw [or_wI_rI]
      by_cases e : z = i
      · rw [if_pos ⟨rfl, e⟩, if_pos e]
      · rw [if_neg (fun y => e y.2), if_neg e, or_wI_rI, if_neg (fun y => by omega)]
    refine s_32_22 (lv := lv) (hd := hd) hE hs hb r (i + 1) _ (by omega) (hC.lk g) h33 (fun j hj => ?_) (fun S' q1 q2 q3 q4 q5 q6 => hQ S' (g.trans q1) q2 q3 (fun a y1 y2 => ?_) (fun z hz => ?_) (fun z hz => ?_))
    · rw [or_wI_rI, if_neg (fun e => by omega), or_wI_rI, if_neg (fun e => by omega), or_wI_rI, if_neg (fun e => by omega), or_wI_rI, if_neg (fun e => by omega)]
      exact he j hj
    · rw [q4 a y1 y2]
      exact funext fun j => by rw [or_wI_rI, if_neg (fun e => y2 e.1), or_wI_rI, if_neg (fun e => y1 e.1)]
    · rw [q5 z hz, e9 z]
      by_cases z1 : i + 1 ≤ z
      · rw [if_pos z1, if_pos (by omega)]
      · rw [if_neg z1]
        by_cases z2 : z = i
        · rw [if_pos z2, if_pos (by omega), z2]
        · rw [if_neg z2, if_neg (by omega)]
    · rw [q6 z hz, e10 z]
      by_cases z1 : i + 1 ≤ z
      · rw [if_pos z1, if_pos (by omega)]
      · rw [if_neg z1]
        by_cases z2 : z = i
        · rw [if_pos z2, if_pos (by omega), z2]
        · rw [if_neg z2, if_neg (by omega)]
/-- takeUp -/
theorem s_32 (hsp : ox_mono sp) (h : lkS S x c κ P n f) (ht : S.R 10 c < x + 4 ∨ x + 10 < S.R 10 c) {p : Nat} {t : oHB} (hP : P p = some t) (hQ : ∀ S' hh b wl wh, lkF x S S' → lkS S' x c κ P n f → t = (hh, blL wl wh b) → hh ≤ 10 → lkW S' x b wl wh → S'.I 32 (x + 3) = nI hh → S'.I 33 (x + 3) = nI b → Q none S') : ox_M sp (d + 1) 32 [.inr (.inr (x + 3)), .inl (nI (p / 2))] mr sr S Q := by
  have hE : ox_mono (ox_M sp d) := ox_M_mono hsp _
  have h' := h
  obtain ⟨hC, hc, hsh, hen, hpl, h28, hq1, hcn, hq2, hq3⟩ := h'
  obtain ⟨p1, p2⟩ := hpl p (by rw [hP]; exact fun z => by cases z)
  have hs : p / 2 < 80 := by omega
  have hez := hen (p / 2) hs
  rw [show 2 * (p / 2) = p by omega, hP] at hez
  obtain ⟨hh, b, lv, hd, e1, e2, e3, e4, e5, e6⟩ := hez
  have k3 := hC.obj (o := 3) (k := 6) (by decide)
  have R23 : S.R 23 (x + 3) = x + 4 := hC.ref (by decide)
  have R24 : S.R 24 (x + 3) = x + 5 := hC.ref (by decide)
  obtain ⟨a1, a2⟩ := hC.row (o := 4) (k := 15) (n := 80) (by decide)
  obtain ⟨a3, a4⟩ := hC.row (o := 5) (k := 15) (n := 80) (by decide)
  refine f_32 hsp ?_
  unfold q_32
  rw [k3, R23, a1, a2, nI_clamp (n := p / 2) (by omega), e4]
  refine ⟨rfl, rfl, vp_in_nI hs (by decide), rfl, ?_⟩
  show ox_has (S.K (x + 3)) 24 = true ∧ ox_rdI (S.K (S.R 24 (x + 3))) = true ∧ vp_in (nI (p / 2)) (S.len (S.R 24 (x + 3))) ∧ ox_has (S.K (x + 3)) 33 = true ∧ c_32_22 (ox_M sp d) (x + 3) (nI (p / 2)) (nI 0) ((S.sI 32 (x + 3) (nI hh)).sI 33 (x + 3) (S.rI (S.R 24 (x + 3)) (p / 2))) mr sr Q
  rw [k3, R24, a3, a4, e5]
  refine ⟨rfl, rfl, vp_in_nI hs (by decide), rfl, ?_⟩
  have g : lkF x S ((S.sI 32 (x + 3) (nI hh)).sI 33 (x + 3) (nI b)) := (lkF_sI (by omega)).trans (lkF_sI (by omega))
  refine s_32_22 hE (lv := lv) (hd := hd) hs e2 b 0 _ (Nat.zero_add b) (hC.lk g) (if_pos ⟨rfl, rfl⟩) (fun i hi => ⟨(e6 i hi).1, (e6 i hi).2.1⟩) (fun S' q1 q2 q3 q4 q5 q6 => ?_)
  have i33 : ((S.sI 32 (x + 3) (nI hh)).sI 33 (x + 3) (nI b)).I 33 (x + 3) = nI b := if_pos ⟨rfl, rfl⟩
  have i32 : ((S.sI 32 (x + 3) (nI hh)).sI 33 (x + 3) (nI b)).I 32 (x + 3) = nI hh := by rw [or_sI_I, if_neg (fun z => by cases z.1), or_sI_I, if_pos ⟨rfl, rfl⟩]
  have i28 : ((S.sI 32 (x + 3) (nI hh)).sI 33 (x + 3) (nI b)).I 28 (x + 3) = S.I 28 (x + 3) := by rw [or_sI_I, if_neg (fun z => by cases z.1), or_sI_I, if_neg (fun z => by cases z.1)]
  refine hQ S' hh b lv hd (g.trans q1) (h.keep ht (g.trans q1) (fun a y1 y2 => q4 a (by omega) (by omega)) (by rw [q2]; exact i28) (by rw [q3]; rfl)) e1 e3 ⟨e2, fun i hi => ?_⟩ (by rw [q2]; exact i32) (by rw [q2]; exact i33)
  rw [q5 i hi, if_pos (Nat.zero_le i), q6 i hi, if_pos (Nat.zero_le i)]
  exact ⟨rfl, rfl, (e6 i hi).2.2.1, (e6 i hi).2.2.2⟩
/-- goOnInBlock -/
theorem s_34 (hsp : ox_mono sp) (h : lkS S x c κ P n f) (ht : S.R 10 c < x + 4 ∨ x + 10 < S.R 10 c) {hh b hdl nx : Nat} {wl wh : Nat → Nat} (hW : lkW S x b wl wh) (h32 : S.I 32 (x + 3) = nI hh) (h33 : S.I 33 (x + 3) = nI b) (hh2 : hh < 131072) (hd2 : hdl < 131072) (hnx : nx < 1000000) (hQ1 : b ≠ 4 → cm1 κ P (nx, hh, (hh, hdl) :: blL wl wh b) → ∀ S' n' f', lkF x S S' → lkS S' x c κ (upS P nx (hh, (hh, hdl) :: blL wl wh b)) n' f' → n ≤ n' → (∀ i, i < n → f' i = f i) → Q (some (.inl 1)) S') (hQ0 : (b ≠ 4 → ¬ cm1 κ P (nx, hh, (hh, hdl) :: blL wl wh b)) → ∀ S', lkF x S S' → Q (some (.inl 0)) S') : ox_M sp (d + 3) 34 [.inr (.inr (x + 3)), .inl (nI hdl), .inl (nI nx)] mr sr S Q := by
  have hE : ox_mono (ox_M sp (d + 2)) := ox_M_mono hsp _
  have hC := h.1
  have hb := hW.1
  have k3 := hC.obj (o := 3) (k := 6) (by decide)
  have R30 : S.R 30 (x + 3) = x + 9 := hC.ref (by decide)
  have R31 : S.R 31 (x + 3) = x + 10 := hC.ref (by decide)
  obtain ⟨a5, a6⟩ := hC.row (o := 9) (k := 15) (n := 4) (by decide)
  obtain ⟨a7, a8⟩ := hC.row (o := 10) (k := 15) (n := 4) (by decide)
  refine f_34 hsp ?_
  unfold q_34
  rw [k3, h33, h32, R30, a5, a6, nI_clamp (n := b) (by omega)]
  refine ⟨rfl, fun z => ⟨rfl, rfl, rfl, rfl, ?_, ?_⟩, fun z => ⟨Or.inl rfl, hQ0 (fun y => ?_) S lkF.refl⟩⟩
  · exact vp_in_nI ((nI_ltI (b := 4) (by omega) (by decide)).mp z) (by decide)
  · have hb4 : b < 4 := (nI_ltI (b := 4) (by omega) (by decide)).mp z
    show ox_has (S.K (x + 3)) 31 = true ∧ ox_has (S.K (x + 3)) 33 = true ∧ S.K (S.R 31 (x + 3)) = 15 ∧ vp_in (S.I 33 (x + 3)) (S.len (S.R 31 (x + 3))) ∧ ox_has (S.K (x + 3)) 32 = true ∧ ox_has (S.K (x + 3)) 33 = true ∧ 4 ≤ 4 ∧ S.K (x + 3) = 6 ∧ 0 ≤ 8 ∧ ∃ mc3 mk4, mc3 ≤ mr ∧ mk4 ≤ sr ∧ ox_M sp (d + 2) 35 [.inr (.inr (x + 3)), .inl (nI nx), .inl (S.I 32 (x + 3)), .inl (S.I 33 (x + 3) + 1)] mc3 mk4 ((S.wI (x + 9) b (nI hh)).wI (S.R 31 (x + 3)) (Int32.toNatClampNeg (S.I 33 (x + 3))) (nI hdl)) (k_34_48 (ox_M sp (d + 2)) (x + 3) (nI hdl) (nI nx) (mr - mc3) (sr - mk4) Q)
    rw [k3, h33, h32, R31, a7, a8, nI_clamp (n := b) (by omega), nI_1]
    refine ⟨rfl, rfl, rfl, vp_in_nI hb4 (by decide), rfl, rfl, by decide, rfl, by decide, 0, 0, Nat.zero_le _, Nat.zero_le _, ?_⟩
    have g : lkF x S ((S.wI (x + 9) b (nI hh)).wI (x + 10) b (nI hdl)) := (lkF_wI (by omega) (by omega)).trans (lkF_wI (by omega) (by omega))
    have rr : ∀ a, a ≠ x + 9 → a ≠ x + 10 → ((S.wI (x + 9) b (nI hh)).wI (x + 10) b (nI hdl)).rI a = S.rI a := fun a y1 y2 => funext fun j => by rw [or_wI_rI, if_neg (fun e => y2 e.1), or_wI_rI, if_neg (fun e => y1 e.1)]
    have h1 := h.keep ht g (fun a y1 y2 => rr a (by omega) (by omega)) rfl rfl
    have ht1 : ((S.wI (x + 9) b (nI hh)).wI (x + 10) b (nI hdl)).R 10 c < x + 4 ∨ x + 10 < ((S.wI (x + 9) b (nI hh)).wI (x + 10) b (nI hdl)).R 10 c := ht
    have hbl : blL (fun i => if i = b then hh else wl i) (fun i => if i = b then hdl else wh i) (b + 1) = (hh, hdl) :: blL wl wh b := by
      show ((if b = b then hh else wl b), (if b = b then hdl else wh b)) :: blL _ _ b = _
      rw [if_pos rfl, if_pos rfl, blL_congr (lv' := wl) (hd' := wh) b (fun i hi => ⟨if_neg (by omega), if_neg (by omega)⟩)]
    have hW1 : lkW ((S.wI (x + 9) b (nI hh)).wI (x + 10) b (nI hdl)) x (b + 1) (fun i => if i = b then hh else wl i) (fun i => if i = b then hdl else wh i) := by
      refine ⟨by omega, fun i hi => ?_⟩
      show ((S.wI (x + 9) b (nI hh)).wI (x + 10) b (nI hdl)).rI (x + 9) i = nI (if i = b then hh else wl i) ∧ ((S.wI (x + 9) b (nI hh)).wI (x + 10) b (nI hdl)).rI (x + 10) i = nI (if i = b then hdl else wh i) ∧ (if i = b then hh else wl i) < 131072 ∧ (if i = b then hdl else wh i) < 131072
      rw [or_wI_rI, if_neg (fun e => by omega), or_wI_rI, or_wI_rI]
      by_cases e : i = b
      · rw [if_pos ⟨rfl, e⟩, if_pos e, if_pos ⟨rfl, e⟩, if_pos e]; exact ⟨rfl, rfl, hh2, hd2⟩
      · rw [if_neg (fun y => e y.2), if_neg e, if_neg (fun y => e y.2), if_neg e, or_wI_rI, if_neg (fun y => by omega)]; exact hW.2 i (by omega)
    refine s_35 hsp h1 ht1 hW1 hnx (by omega) (fun y1 y2 y3 S' n' f' q1 q2 q3 q4 _ _ _ _ => f_34_48 hE ⟨Or.inr rfl, ?_⟩) (fun y => f_34_48 hE ⟨Or.inl rfl, hQ0 (fun _ y2 => y ?_) _ g⟩)
    · rw [hbl] at y3 q2
      exact hQ1 (by omega) ⟨y1, y2, y3⟩ S' n' f' (g.trans q1) q2 q3 q4
    · rw [hbl]; exact y2
  · have : ¬ b < 4 := fun e => z (nI_lt (b := 4) e (by decide))
    exact absurd (show b = 4 by omega) y
end OLS
