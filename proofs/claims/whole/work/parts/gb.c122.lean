/-! the class reads: objects, one behind the other -/
/-- what an object's reading gives -/
def cPo (x : Nat) (b : Nat → Nat) (e nc K op : Nat) (O : Nat → Prop) (S : ox_St) (α : Int → Nat) (r : pR Int) (Q : ox_Q) : Prop := (r.1.2 ≠ none → ∀ S' a, prV x S S' → tpS S' x b e r.1 → oLx S' x → (a = 0 ∨ ox_isV (S'.K a) = true) → Q (some (.inr (.inr a))) S') ∧ (r.1.2 = none → ∀ S' α' a, prV x S S' → cG x b e nc K op O S' r.1 α' r.2.1 → aX S.n α α' → vC S' x α' r.2.2 a → ox_isV (S'.K a) = true → Q (some (.inr (.inr a))) S')
/-- an object is read, k levels are left -/
def cRo (sp : ox_E) (x : Nat) (b : Nat → Nat) (e nc K k : Nat) : Prop := ∀ (d mr sr op : Nat) (O : Nat → Prop) (S : ox_St) (Q : ox_Q) (s : oTS) (α : Int → Nat) (h : pH), cG x b e nc K op O S s α h → s.2 = none → (∀ t, O t → t < S.n) → 8 * ((rdO b e k s h).1.1 - s.1) ≤ mr → 400 * ((rdO b e k s h).1.1 - s.1) ≤ sr → cPo x b e nc K op O S α (rdO b e k s h) Q → ox_M sp (d + 3 * k + 12) 116 [.inr (.inr x), .inl (nI (6 - k))] mr sr S Q
/-- rows being made: what a list's reading gives; its row lies at S.n -/
def cPf (x : Nat) (b : Nat → Nat) (e n : Nat) (S0 : ox_St) (r : pR (List Int)) (Q : ox_Q) : Prop := r.1.2 ≠ none → ∀ S', prV x S0 S' → tpS S' x b e r.1 → oLx S' x → S0.n < S'.n → S'.K S0.n = 19 → S'.len S0.n = n → (∀ j, j < n → S'.rR S0.n j = 0 ∨ ox_isV (S'.K (S'.rR S0.n j)) = true) → Q (some (.inr (.inr S0.n))) S'
def cPs (x : Nat) (b : Nat → Nat) (e nc K op n : Nat) (O : Nat → Prop) (S0 : ox_St) (α0 : Int → Nat) (L : List Int) (r : pR (List Int)) (Q : ox_Q) : Prop := r.1.2 = none → ∀ S' α', prV x S0 S' → cG x b e nc K op (fun u => O u ∨ u = S0.n) S' r.1 α' r.2.1 → aX S0.n α0 α' → S0.n < S'.n → S'.K S0.n = 19 → S'.len S0.n = n → (∀ j, j < n → vC S' x α' ((L ++ r.2.2).getD j 0) (S'.rR S0.n j) ∧ ox_isV (S'.K (S'.rR S0.n j)) = true) → Q (some (.inr (.inr S0.n))) S'
section C122
variable {sp : ox_E} {d : Nat} {Q : ox_Q} {x e nc K op k : Nat} {b : Nat → Nat} {O : Nat → Prop} {S0 : ox_St} {α0 : Int → Nat}
theorem tpS.wR {S : ox_St} {s : oTS} {t i a : Nat} (h : tpS S x b e s) (ht : x + 119 ≤ t) : tpS (S.wR t i a) x b e s := by
  have rw' : ∀ u, u ≠ t → (S.wR t i a).rR u = S.rR u := fun u hu => funext fun j => by rw [or_wR_rR, if_neg (fun z => hu z.1)]
  exact ⟨h.1.next (fun _ _ _ => ⟨rfl, rfl⟩) (fun _ _ _ _ _ _ _ _ _ => rfl) (fun _ _ _ _ _ => rfl) (rw' _ (by omega)) (rw' _ (by omega)) rfl, h.2⟩
theorem prV.wR {S : ox_St} {t i a : Nat} (h : prV x S0 S) (ht : S0.n ≤ t) : prV x S0 (S.wR t i a) := by
  obtain ⟨h1, h2, h3, h4, h5, h6, h7⟩ := h
  exact ⟨h1, h2, h3.trans ((oAg_wR (P := fun a => a < S0.n) (fun z => by omega)).sub (fun a ha => ha.1)), h4, h5, h6, h7⟩
theorem c122_12 (hsp : ox_mono sp) (hf : cRo sp x b e nc K k) {n : Nat} {c : Int32} (hn : n ≤ 12) (x119 : x + 119 ≤ S0.n) (hO : ∀ u, O u → u < S0.n) : ∀ (r i : Nat) (L : List Int) (S : ox_St) (s : oTS) (α : Int → Nat) (h : pH) (mr sr : Nat), i + r = n → L.length = i → cG x b e nc K op (fun u => O u ∨ u = S0.n) S s α h → s.2 = none → prV x S0 S → aX S0.n α0 α → S.K S0.n = 19 → S.len S0.n = n → S0.n < S.n → (∀ j, j < i → vC S x α (L.getD j 0) (S.rR S0.n j) ∧ ox_isV (S.K (S.rR S0.n j)) = true) → (∀ j, i ≤ j → S.rR S0.n j = 0) → 8 * ((rdL (rdO b e k) r s h).1.1 - s.1) ≤ mr → 400 * ((rdL (rdO b e k) r s h).1.1 - s.1) ≤ sr → cPf x b e n S0 (rdL (rdO b e k) r s h) Q → cPs x b e nc K op n O S0 α0 L (rdL (rdO b e k) r s h) Q → c_122_12 (ox_M sp (d + 3 * k + 12)) x c (nI (6 - k)) S0.n (nI i) S mr sr Q := by
  have hE : ox_mono (ox_M sp (d + 3 * k + 12)) := ox_M_mono hsp _
  intro r
  induction r with
  | zero =>
    intro i L S s α h mr sr hi hL g hs f ax kt lt nt hrw rz m1 m2 qf qs
    refine f_122_12 hE ⟨by rw [kt]; rfl, fun _ => ⟨rfl, qs hs S α f g ax nt kt lt (fun j hj => ?_)⟩, fun z => absurd ?_ z⟩
    · show vC S x α ((L ++ []).getD j 0) _ ∧ _
      rw [List.append_nil]
      exact hrw j (by omega)
    · rw [lt]; exact nI_le (a := n) (b := i) (by omega) (by omega)
  | succ r ih =>
    intro i L S s α h mr sr hi hL g hs f ax kt lt nt hrw rz m1 m2 qf qs
    have kx : S.K x = 13 := g.1.1.obj (o := 0) (k := 13) (by decide)
    have i63 : S.I 63 x = -1 := by
      have := g.1.2.2.2.2.2.1
      rw [hs] at this
      exact this
    have ge1 := rdO_ge (b := b) (e := e) k s h
    have hOS : ∀ u, (O u ∨ u = S0.n) → u < S.n := fun u hu => by
      have hn' := f.1
      rcases hu with z | z
      · have := hO u z; omega
      · omega
    have full : 8 * ((rdO b e k s h).1.1 - s.1) ≤ mr ∧ 400 * ((rdO b e k s h).1.1 - s.1) ≤ sr ∧ ((rdO b e k s h).1.2 = none → 8 * ((rdL (rdO b e k) r (rdO b e k s h).1 (rdO b e k s h).2.1).1.1 - (rdO b e k s h).1.1) ≤ mr - 8 * ((rdO b e k s h).1.1 - s.1) ∧ 400 * ((rdL (rdO b e k) r (rdO b e k s h).1 (rdO b e k s h).2.1).1.1 - (rdO b e k s h).1.1) ≤ sr - 400 * ((rdO b e k s h).1.1 - s.1)) := by
      by_cases z : (rdO b e k s h).1.2 = none
      · have er : rdL (rdO b e k) (r + 1) s h = ((rdL (rdO b e k) r (rdO b e k s h).1 (rdO b e k s h).2.1).1, (rdL (rdO b e k) r (rdO b e k s h).1 (rdO b e k s h).2.1).2.1, (rdO b e k s h).2.2 :: (rdL (rdO b e k) r (rdO b e k s h).1 (rdO b e k s h).2.1).2.2) := if_pos z
        rw [er] at m1 m2
        have ge2 := rdL_ge (rdO_ge (b := b) (e := e) k) r (rdO b e k s h).1 (rdO b e k s h).2.1
        have m1' : 8 * ((rdL (rdO b e k) r (rdO b e k s h).1 (rdO b e k s h).2.1).1.1 - s.1) ≤ mr := m1
        have m2' : 400 * ((rdL (rdO b e k) r (rdO b e k s h).1 (rdO b e k s h).2.1).1.1 - s.1) ≤ sr := m2
        exact ⟨by omega, by omega, fun _ => ⟨by omega, by omega⟩⟩
      · have er : rdL (rdO b e k) (r + 1) s h = ((rdO b e k s h).1, (rdO b e k s h).2.1, []) := if_neg z
        rw [er] at m1 m2
        exact ⟨m1, m2, fun y => absurd y z⟩
    refine f_122_12 hE ⟨by rw [kt]; rfl, fun z => absurd z ?_, fun _ => ⟨by rw [kx]; rfl, fun z => absurd i63 z, fun _ => ⟨by decide, kx, by decide, 8 * ((rdO b e k s h).1.1 - s.1), 400 * ((rdO b e k s h).1.1 - s.1), full.1, full.2.1, ?_⟩⟩⟩
    · rw [lt]; exact nI_ge (a := i) (b := n) (by omega) (by omega)
    refine hf d _ _ op _ S _ s α h g hs hOS (Nat.le_refl _) (Nat.le_refl _) ⟨fun z S1 a f1 t1 lx ka => f_122_35 hE ?_, fun z S1 α1 a f1 g1 ax1 va ka => f_122_35 hE ?_⟩
    · have er : rdL (rdO b e k) (r + 1) s h = ((rdO b e k s h).1, (rdO b e k s h).2.1, []) := if_neg z
      rw [er] at qf
      have kt1 : S1.K S0.n = 19 := (f1.2.1 _ nt).1.trans kt
      have lt1 : S1.len S0.n = n := (f1.2.1 _ nt).2.trans lt
      have nt1 : S0.n < S1.n := Nat.lt_of_lt_of_le nt f1.1
      have x1 : x + 119 ≤ S.n := by omega
      obtain ⟨-, -, -, -, -, -, r7, -⟩ := f1.at nt (by omega) (by omega) (by rw [kt]; decide)
      refine ⟨by rw [kt1]; rfl, by rw [lt1]; exact vp_in_nI (by omega) (by omega), ka.imp id (fun y => by rw [kt1]; exact y), ?_⟩
      rw [nI_clamp (n := i) (by omega)]
      have fin : Q (some (.inr (.inr S0.n))) (S1.wR S0.n i a) := by
        refine qf z _ ((f.trans f1).wR (Nat.le_refl _)) (t1.wR x119) (lx.wR kt1) nt1 kt1 lt1 (fun j hj => ?_)
        show (S1.wR S0.n i a).rR S0.n j = 0 ∨ ox_isV (S1.K ((S1.wR S0.n i a).rR S0.n j)) = true
        rw [or_wR_rR]
        by_cases y : j = i
        · rw [if_pos ⟨rfl, y⟩]; exact ka
        · rw [if_neg (fun w => y w.2), r7]
          by_cases w : j < i
          · right
            rw [(f1.2.1 _ (hrw j w).1.2.1).1]
            exact (hrw j w).2
          · left; exact rz j (by omega)
      have kx1 : (S1.wR S0.n i a).K x = 13 := t1.1.obj (o := 0) (k := 13) (by decide)
      have i63' : ¬ (S1.wR S0.n i a).I 63 x = -1 := by
        have e63 := t1.2.2.2.2.2.1
        cases w : (rdO b e k s h).1.2 with
        | none => exact absurd w z
        | some v =>
          have hv := t1.2.2.2.2.2.2.1 v w
          rw [w] at e63
          show ¬ S1.I 63 x = -1
          rw [e63]
          exact nI_m1 (by omega)
      refine f_122_12 hE ⟨by show ox_rdL (S1.K S0.n) = true; rw [kt1]; rfl, fun _ => ⟨rfl, fin⟩, fun _ => ⟨by rw [kx1]; rfl, fun _ => ⟨rfl, fin⟩, fun y => absurd y i63'⟩⟩
    · have er : rdL (rdO b e k) (r + 1) s h = ((rdL (rdO b e k) r (rdO b e k s h).1 (rdO b e k s h).2.1).1, (rdL (rdO b e k) r (rdO b e k s h).1 (rdO b e k s h).2.1).2.1, (rdO b e k s h).2.2 :: (rdL (rdO b e k) r (rdO b e k s h).1 (rdO b e k s h).2.1).2.2) := if_pos z
      rw [er] at qf qs
      obtain ⟨u1, u2⟩ := full.2.2 z
      have kt1 : S1.K S0.n = 19 := (f1.2.1 _ nt).1.trans kt
      have lt1 : S1.len S0.n = n := (f1.2.1 _ nt).2.trans lt
      have nt1 : S0.n < S1.n := Nat.lt_of_lt_of_le nt f1.1
      obtain ⟨-, -, -, -, -, -, r7, -⟩ := f1.at nt (by omega) (by omega) (by rw [kt]; decide)
      refine ⟨by rw [kt1]; rfl, by rw [lt1]; exact vp_in_nI (by omega) (by omega), Or.inr (by rw [kt1]; exact ka), ?_⟩
      rw [nI_clamp (n := i) (by omega), nI_1]
      refine ih (i + 1) (L ++ [(rdO b e k s h).2.2]) (S1.wR S0.n i a) (rdO b e k s h).1 α1 (rdO b e k s h).2.1 _ _ (by omega) (by rw [List.length_append, hL]; rfl) (g1.wR (Or.inr rfl) x119 kt1) z ((f.trans f1).wR (Nat.le_refl _)) (ax.trans (ax1.low f.1) (Nat.le_refl _)) kt1 lt1 nt1 (fun j hj => ?_) (fun j hj => ?_) u1 u2 qf (fun y S' α' p1 p2 p3 p4 p5 p6 p7 => qs y S' α' p1 p2 p3 p4 p5 p6 (fun j hj => ?_))
      · show vC (S1.wR S0.n i a) x α1 ((L ++ [(rdO b e k s h).2.2]).getD j 0) ((S1.wR S0.n i a).rR S0.n j) ∧ ox_isV (S1.K ((S1.wR S0.n i a).rR S0.n j)) = true
        rw [or_wR_rR, List.getD_eq_getElem?_getD]
        by_cases y : j = i
        · rw [if_pos ⟨rfl, y⟩, y, ← hL, List.getElem?_append_right (Nat.le_refl _), Nat.sub_self]
          exact ⟨va, ka⟩
        · rw [if_neg (fun w => y w.2), r7, List.getElem?_append_left (by omega), ← List.getD_eq_getElem?_getD]
          obtain ⟨v1, v2⟩ := hrw j (by omega)
          exact ⟨(show vC S1 x α1 (L.getD j 0) (S.rR S0.n j) from v1.pr f1 (ax1.le _)), by rw [(f1.2.1 _ v1.2.1).1]; exact v2⟩
      · show (S1.wR S0.n i a).rR S0.n j = 0
        rw [or_wR_rR, if_neg (fun w => by omega), r7]
        exact rz j (by omega)
      · have := p7 j hj
        rw [List.append_assoc] at this
        exact this
/-- objects -/
theorem c_122 (hsp : ox_mono sp) (hf : cRo sp x b e nc K k) {n mr sr : Nat} {s : oTS} {h : pH} (hn : n ≤ 12) (g : cG x b e nc K op O S0 s α0 h) (hs : s.2 = none) (hO : ∀ u, O u → u < S0.n) (m1 : 1 + 8 * ((rdL (rdO b e k) n s h).1.1 - s.1) ≤ mr) (m2 : 12 + 400 * ((rdL (rdO b e k) n s h).1.1 - s.1) ≤ sr) (qf : cPf x b e n S0 (rdL (rdO b e k) n s h) Q) (qs : cPs x b e nc K op n O S0 α0 [] (rdL (rdO b e k) n s h) Q) : ox_M sp (d + 3 * k + 13) 122 [.inr (.inr x), .inl (nI n), .inl (nI (6 - k))] mr sr S0 Q := by
  have hcnt : (if nI n < 0 then 0 else nI n) = nI n := if_neg (nI_pos (by omega))
  have x119 : x + 119 ≤ S0.n := g.2.1.2.2.2.1
  refine f_122 (d := d + 3 * k + 12) hsp ?_
  unfold q_122
  rw [hcnt, nI_clamp (n := n) (by omega)]
  refine ⟨by decide, nI_pos (by omega), by omega, by omega, by omega, ?_⟩
  have ag : oAg (fun a => a < S0.n) S0 (S0.newA 19 n) := oAg_newA (P := fun a => a < S0.n) (Nat.lt_irrefl _)
  have f4 : prF x S0 (S0.newA 19 n) := prF_new (Nat.le_succ _) ag (by omega)
  have a0 := ag x (by show x < S0.n; omega)
  have t4 : tpS (S0.newA 19 n) x b e s := g.1.keep f4 (by omega) (a0.2.2.1 62) (a0.2.2.1 63)
  have gO : cG x b e nc K op (fun u => O u ∨ u = S0.n) S0 s α0 h := ⟨g.1, g.2.1, g.2.2.1.add (Nat.le_refl _), g.2.2.2⟩
  exact c122_12 hsp hf hn x119 hO n 0 [] (S0.newA 19 n) s α0 h (mr - 1) (sr - n) (Nat.zero_add _) rfl (gO.mv f4 t4 (Nat.le_refl _)) hs f4.v aX.refl (by rw [or_newA_K, if_pos rfl]) (by rw [or_newA_len, if_pos rfl]) (by rw [or_newA_n]; omega) (fun j hj => absurd hj (Nat.not_lt_zero _)) (fun j _ => by rw [or_newA_rR, if_pos rfl]) (by omega) (by omega) qf qs
/-- behind a fault -/
theorem c_122f (hsp : ox_mono sp) {mr sr : Nat} {s : oTS} {lv : Int32} (m1 : 1 ≤ mr) (hQ : Q (some (.inr (.inr S0.n))) (S0.newA 19 0)) : ox_M sp (d + 1) 122 [.inr (.inr x), .inl (-1), .inl lv] mr sr S0 Q := by
  have hE : ox_mono (ox_M sp d) := ox_M_mono hsp _
  refine f_122 hsp ?_
  unfold q_122
  rw [show (if (-1 : Int32) < 0 then 0 else (-1 : Int32)) = nI 0 from rfl, nI_clamp (n := 0) (by decide)]
  refine ⟨by decide, by decide, by omega, by omega, Nat.zero_le _, ?_⟩
  refine f_122_12 hE ⟨by rw [or_newA_K, if_pos rfl]; rfl, fun _ => ⟨rfl, hQ⟩, fun z => absurd ?_ z⟩
  rw [or_newA_len, if_pos rfl]
  decide
end C122
