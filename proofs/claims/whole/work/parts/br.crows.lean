/-! the class: a value told as a row of numbers -/
def dgF : Nat → Nat → List Nat
  | 0, _ => []
  | k + 1, n => if n = 0 then [] else n % 32768 :: dgF k (n / 32768)
theorem dgF_dc : ∀ (k n : Nat) (f : Nat → Nat), dc f n → n ≤ k → dgF k (dv f n) = (List.range n).map f
  | 0, n, f, _, hk => by
    have : n = 0 := by omega
    subst this
    rfl
  | k + 1, 0, f, _, _ => by
    show (if dv f 0 = 0 then [] else _) = _
    rw [if_pos (show dv f 0 = 0 from rfl)]
    rfl
  | k + 1, n + 1, f, h, hk => by
    have lo := dc_low h (Nat.succ_pos _)
    have p0 : 0 < 32768 ^ (n + 1 - 1) := Nat.pow_pos (by decide)
    have f0 := h.1 0 (Nat.succ_pos _)
    have h' : dc (fun i => f (i + 1)) n := ⟨fun i hi => h.1 (i + 1) (by omega), fun n0 => by
      show f (n - 1 + 1) ≠ 0
      rw [Nat.sub_add_cancel n0]
      exact h.2 (Nat.succ_pos _)⟩
    have ih := dgF_dc k n (fun i => f (i + 1)) h' (by omega)
    show (if dv f (n + 1) = 0 then [] else dv f (n + 1) % 32768 :: dgF k (dv f (n + 1) / 32768)) = _
    rw [if_neg (by omega), List.range_succ_eq_map, List.map_cons, List.map_map]
    rw [dv_cons]
    have e1 : (f 0 + 32768 * dv (fun i => f (i + 1)) n) % 32768 = f 0 := by omega
    have e2 : (f 0 + 32768 * dv (fun i => f (i + 1)) n) / 32768 = dv (fun i => f (i + 1)) n := by omega
    rw [e1, e2, ih]
    rfl
/-- what a value is told as; k: how deep it may still go -/
def xRow (C : Nat → xCd) (H : xHp) : Nat → Int → List Int32
  | 0, _ => []
  | k + 1, v => Int32.ofInt (xTg H v) :: (if v < 0 then [nI (cdA (C (-1 - v).toNat).1)] else if v ≤ 3 then [] else if v ≤ 10 then [nI (v - 4).toNat] else match H v with
    | some (.inl N) => sgI N :: nI (dgF 16 N.natAbs).length :: (dgF 16 N.natAbs).map nI
    | some (.inr (.inl q)) => nI q.1.length :: q.1.flatMap (xRow C H k)
    | some (.inr (.inr (.inl q))) => [Int32.ofInt q.1, Int32.ofInt q.2.1, Int32.ofInt q.2.2]
    | some (.inr (.inr (.inr (.inl _)))) => []
    | some (.inr (.inr (.inr (.inr c)))) => [nI (cdA (C c).1)]
    | none => [])
/-- all but the row -/
def cQ (x : Nat) (S T : ox_St) : Prop := T.n = S.n ∧ T.K = S.K ∧ T.len = S.len ∧ T.R = S.R ∧ T.J = S.J ∧ T.rR = S.rR ∧ T.rJ = S.rJ ∧ (∀ F a, (F ≠ 68 ∨ a ≠ x) → T.I F a = S.I F a) ∧ ∀ t j, t ≠ x + 75 → T.rI t j = S.rI t j
theorem cQ.refl {x : Nat} {S : ox_St} : cQ x S S := ⟨rfl, rfl, rfl, rfl, rfl, rfl, rfl, fun _ _ _ => rfl, fun _ _ _ => rfl⟩
theorem cQ.sI {x : Nat} {S T : ox_St} {v : Int32} (h : cQ x S T) : cQ x S (T.sI 68 x v) := by
  obtain ⟨h1, h2, h3, h4, h5, h6, h7, h8, h9⟩ := h
  refine ⟨(or_sI_n _ _ _ _).trans h1, (or_sI_K _ _ _ _).trans h2, (or_sI_len _ _ _ _).trans h3, (or_sI_R _ _ _ _).trans h4, (or_sI_J _ _ _ _).trans h5, (or_sI_rR _ _ _ _).trans h6, (or_sI_rJ _ _ _ _).trans h7, fun F a z => ?_, fun t j z => ?_⟩
  · rw [or_sI_I, if_neg (fun y => by rcases z with z | z; exact z y.1; exact z y.2)]
    exact h8 F a z
  · rw [or_sI_rI]; exact h9 t j z
theorem cQ.wI {x i : Nat} {S T : ox_St} {v : Int32} (h : cQ x S T) : cQ x S (T.wI (x + 75) i v) := by
  obtain ⟨h1, h2, h3, h4, h5, h6, h7, h8, h9⟩ := h
  refine ⟨(or_wI_n _ _ _ _).trans h1, (or_wI_K _ _ _ _).trans h2, (or_wI_len _ _ _ _).trans h3, (or_wI_R _ _ _ _).trans h4, (or_wI_J _ _ _ _).trans h5, (or_wI_rR _ _ _ _).trans h6, (or_wI_rJ _ _ _ _).trans h7, fun F a z => ?_, fun t j z => ?_⟩
  · rw [or_wI_I]; exact h8 F a z
  · rw [or_wI_rI, if_neg (fun y => z y.1)]
    exact h9 t j z
def cWr (x a : Nat) : Prop := a = x ∨ a = x + 75
theorem cQ.cI {x : Nat} {S T : ox_St} (h : cQ x S T) : cI x (cWr x) S T := by
  obtain ⟨h1, h2, h3, h4, h5, h6, h7, h8, h9⟩ := h
  refine ⟨⟨by omega, fun a _ => by rw [h2, h3]; exact ⟨rfl, rfl⟩⟩, fun a ha => ?_, fun a _ _ => ⟨fun G _ _ _ => by rw [h4], fun G hG => h8 G a (Or.inl (by omega))⟩⟩
  have a1 : a ≠ x := fun z => ha.2 (Or.inl z)
  have a2 : a ≠ x + 75 := fun z => ha.2 (Or.inr z)
  exact ⟨by rw [h2], by rw [h3], fun F => h8 F a (Or.inr a1), fun F => by rw [h4], fun F => by rw [h5], fun j => h9 a j a2, fun j => by rw [h6], fun j => by rw [h7]⟩
theorem cQ.cR {x nc : Nat} {S T : ox_St} {α : Int → Nat} {C : Nat → xCd} {s : xSt} (q : cQ x S T) (h : cR S x α C nc s) (hl : s.f.length ≤ 8) : cR T x α C nc s := by
  have hI := q.cI
  have hY : ∀ a, cWr x a → cY x a := fun a z => Or.inr (z.imp id (fun y => by omega))
  obtain ⟨b, hp, fs, g, m1, m2, m3, m4, m5⟩ := h
  have hn : x + 119 ≤ S.n := b.2.2.2.1
  have i8 := q.2.2.2.2.2.2.2.1
  have r := q.2.2.2.1
  have e : ∀ F, T.I F (x + 11) = S.I F (x + 11) := fun F => i8 F _ (Or.inr (by omega))
  exact ⟨b.nextY hI hY, hp.nextY (K := 0) hI hY, cFs.keep hn hI _ hl (fun a z1 z2 z => by unfold cWr at z; omega) fs, g.keep hn hI (e 43) (fun z => by unfold cWr at z; omega) (fun z => by unfold cWr at z; omega), (e 35).trans m1, (e 37).trans m2, (e 38).trans m3, fun z => by rw [r]; exact (m4 z).next hI rfl, fun z => by rw [r]; exact m5 z⟩
/-- the row holds A, as far as it goes -/
def cRw (x : Nat) (S T : ox_St) (A : List Int32) : Prop := cQ x S T ∧ T.I 68 x = nI (min A.length 300) ∧ ∀ i, i < 300 → i < A.length → T.rI (x + 75) i = A.getD i 0
theorem cRw.more {x : Nat} {S T : ox_St} {A : List Int32} (h : cRw x S T A) (hA : 300 ≤ A.length) (B : List Int32) : cRw x S T (A ++ B) := by
  obtain ⟨h1, h2, h3⟩ := h
  refine ⟨h1, ?_, fun i hi _ => ?_⟩
  · rw [h2, List.length_append, Nat.min_eq_right hA, Nat.min_eq_right (by omega)]
  · rw [h3 i hi (by omega), List.getD_eq_getElem?_getD, List.getD_eq_getElem?_getD, List.getElem?_append_left (by omega)]
section CRw
variable {sp : ox_E} {d mr sr : Nat} {S T : ox_St} {Q : ox_Q} {x : Nat} {α : Int → Nat} {C : Nat → xCd} {nc K : Nat} {H : xHp} {n : Int} {A : List Int32} {v : Int}
/-- put -/
theorem c_110 (hsp : ox_mono sp) (hB : cBs S x) (h : cRw x S T A) {y : Int32} (hQ : ∀ T', cRw x S T' (A ++ [y]) → Q none T') : ox_M sp (d + 1) 110 [.inr (.inr x), .inl y] mr sr T Q := by
  obtain ⟨q, l, r⟩ := id h
  have k0 : T.K x = 13 := by rw [q.2.1]; exact hB.1.obj (o := 0) (by decide)
  have r67 : T.R 67 x = x + 75 := by rw [q.2.2.2.1]; exact hB.1.ref (o := 0) (by decide)
  obtain ⟨k75, l75⟩ := hB.1.row (o := 75) (k := 15) (n := 300) (by decide)
  refine f_110 hsp ⟨by rw [k0]; rfl, fun z => ⟨rfl, hQ T (h.more ?_ [y])⟩, fun z => ?_⟩
  · rw [l] at z
    have := (nI_leI (a := 300) (by decide) (by omega)).mp z
    omega
  · have lt : A.length < 300 := by
      by_cases w : A.length < 300
      · exact w
      · exact absurd (by rw [l, Nat.min_eq_right (by omega)]; decide) z
    have l' : T.I 68 x = nI A.length := by rw [l, Nat.min_eq_left (by omega)]
    refine ⟨by rw [k0]; rfl, by rw [k0]; rfl, by rw [r67, q.2.1]; exact k75, by rw [r67, q.2.2.1, l75, l']; exact vp_in_nI lt (by decide), ?_⟩
    rw [r67, l', nI_clamp (by omega)]
    refine ⟨by rw [or_wI_K, k0]; rfl, by rw [or_wI_K, k0]; rfl, ?_⟩
    rw [or_wI_I, l', nI_1]
    refine ⟨rfl, hQ _ ⟨q.wI.sI, ?_, fun i hi hA => ?_⟩⟩
    · rw [or_sI_I, if_pos ⟨rfl, rfl⟩, List.length_append, Nat.min_eq_left (by show A.length + 1 ≤ 300; omega)]
      rfl
    · rw [or_sI_rI, or_wI_rI, List.getD_eq_getElem?_getD]
      rw [List.length_append] at hA
      have hA' : i < A.length + 1 := hA
      by_cases w : i = A.length
      · rw [if_pos ⟨rfl, w⟩, w, List.getElem?_append_right (Nat.le_refl _), Nat.sub_self]
        rfl
      · rw [if_neg (fun u => w u.2), r i hi (by omega), List.getD_eq_getElem?_getD, List.getElem?_append_left (by omega)]
/-- the digits -/
theorem c_109_l (hsp : ox_mono sp) (hB : cBs S x) {b t c : Nat} {w : Nat → Nat} {r : Int32} (hb : oNm S b t w c r) (ht : t ≠ x + 75) (hQ : ∀ T', cRw x S T' (A ++ (List.range c).map (fun i => nI (w i))) → Q none T') : ∀ (m i mr sr : Nat) (T : ox_St), i + m = c → cRw x S T (A ++ (List.range i).map (fun i => nI (w i))) → c_109_27 (ox_M sp (d + 1)) x b (nI i) T mr sr Q := by
  have hE : ox_mono (ox_M sp (d + 1)) := ox_M_mono hsp _
  obtain ⟨b1, b2, ⟨b3, b4, b5, b6⟩, -⟩ := hb
  intro m
  induction m with
  | zero =>
    intro i mr sr T hi h
    have hi' : i = c := hi
    subst hi'
    obtain ⟨-, qK, ql, qR, -⟩ := id h.1
    refine f_109_27 hE ⟨by rw [qK, b1]; rfl, by rw [qR, qK, b2, b3]; rfl, fun _ => ⟨rfl, hQ T h⟩, fun z => absurd (by rw [qR, ql, b2, b4]; exact nI_le (Nat.le_refl _) (by omega)) z⟩
  | succ m ih =>
    intro i mr sr T hi h
    obtain ⟨-, qK, ql, qR, -, -, -, -, qr⟩ := id h.1
    have k0 : T.K x = 13 := by rw [qK]; exact hB.1.obj (o := 0) (by decide)
    refine f_109_27 hE ⟨by rw [qK, b1]; rfl, by rw [qR, qK, b2, b3]; rfl, fun z => ?_, fun z => ⟨by rw [qK, b1]; rfl, by rw [qR, qK, b2, b3]; rfl, by rw [qR, ql, b2, b4]; exact vp_in_nI (by omega) (by omega), by decide, k0, by decide, 0, 0, Nat.zero_le _, Nat.zero_le _, ?_⟩⟩
    · rw [qR, ql, b2, b4] at z
      exact absurd z (nI_ge (by omega) (by omega))
    · rw [qR, b2, nI_clamp (by omega), qr t i ht, (b6 i (by omega)).1]
      refine c_110 hsp hB h (fun T' h' => f_109_46 hE ?_)
      show c_109_27 (ox_M sp (d + 1)) x b (nI i + 1) _ _ _ Q
      rw [nI_1]
      refine ih (i + 1) _ _ T' (by omega) ?_
      rw [List.range_succ, List.map_append, ← List.append_assoc]
      exact h'
/-- writeNumber -/
theorem c_109 (hsp : ox_mono sp) (hB : cBs S x) {b t c : Nat} {w : Nat → Nat} {r : Int32} (hb : oNm S b t w c r) (ht : t ≠ x + 75) (h : cRw x S T A) (hQ : ∀ T', cRw x S T' (A ++ (r :: nI c :: (List.range c).map (fun i => nI (w i)))) → Q none T') : ox_M sp (d + 2) 109 [.inr (.inr x), .inr (.inr b)] mr sr T Q := by
  have hE : ox_mono (ox_M sp (d + 1)) := ox_M_mono hsp _
  obtain ⟨b1, b2, ⟨b3, b4, b5, b6⟩, b7, b8, b9, b10⟩ := id hb
  obtain ⟨-, qK, ql, qR, -, -, -, qI, -⟩ := id h.1
  have k0 : T.K x = 13 := by rw [qK]; exact hB.1.obj (o := 0) (by decide)
  have e51 : T.I 51 b = r := (qI 51 b (Or.inl (by decide))).trans b8
  have rest : ∀ mr sr T1, cRw x S T1 (A ++ [r]) → q_109_16 (ox_M sp (d + 1)) x b T1 mr sr Q := fun mr sr T1 h1 => by
    obtain ⟨-, pK, pl, pR, -⟩ := id h1.1
    have k0' : T1.K x = 13 := by rw [pK]; exact hB.1.obj (o := 0) (by decide)
    refine ⟨by rw [pK, b1]; rfl, by rw [pR, pK, b2, b3]; rfl, by decide, k0', by decide, 0, 0, Nat.zero_le _, Nat.zero_le _, ?_⟩
    rw [pR, pl, b2, b4]
    refine c_110 hsp hB h1 (fun T2 h2 => f_109_25 hE ?_)
    show c_109_27 (ox_M sp (d + 1)) x b (nI 0) T2 _ _ Q
    refine c_109_l (A := A ++ [r] ++ [nI c]) hsp hB hb ht (fun T' h' => hQ T' ?_) c 0 _ _ T2 (by omega) ?_
    · rw [List.append_assoc, List.append_assoc] at h'
      exact h'
    · rw [show (List.range 0).map (fun i => nI (w i)) = [] from rfl, List.append_nil]
      exact h2
  refine f_109 hsp ⟨by rw [qK, b1]; rfl, fun z => ⟨by decide, k0, by decide, 0, 0, Nat.zero_le _, Nat.zero_le _, ?_⟩, fun z => ⟨by decide, k0, by decide, 0, 0, Nat.zero_le _, Nat.zero_le _, ?_⟩⟩
  · rw [e51] at z
    subst z
    exact c_110 hsp hB h (fun T1 h1 => f_109_16 hE (rest _ _ T1 h1))
  · rw [e51] at z
    have : r = 1 := b9.resolve_left z
    subst this
    exact c_110 hsp hB h (fun T1 h1 => f_109_16 hE (rest _ _ T1 h1))
end CRw
