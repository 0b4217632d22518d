/-! what a call leaves alone; feed -/
/-- the pictures agree at the addresses of P -/
def oAg (P : Nat → Prop) (S S' : ox_St) : Prop := ∀ a, P a → S'.K a = S.K a ∧ S'.len a = S.len a ∧ (∀ F, S'.I F a = S.I F a) ∧ (∀ F, S'.R F a = S.R F a) ∧ (∀ F, S'.J F a = S.J F a) ∧ (∀ j, S'.rI a j = S.rI a j) ∧ (∀ j, S'.rR a j = S.rR a j) ∧ (∀ j, S'.rJ a j = S.rJ a j)
section OAG
variable {P : Nat → Prop} {S S' T : ox_St}
theorem oAg.refl : oAg P S S := fun _ _ => ⟨rfl, rfl, fun _ => rfl, fun _ => rfl, fun _ => rfl, fun _ => rfl, fun _ => rfl, fun _ => rfl⟩
theorem oAg.trans (h : oAg P S S') (g : oAg P S' T) : oAg P S T := fun a ha => by
  obtain ⟨h1, h2, h3, h4, h5, h6, h7, h8⟩ := h a ha
  obtain ⟨g1, g2, g3, g4, g5, g6, g7, g8⟩ := g a ha
  exact ⟨g1.trans h1, g2.trans h2, fun F => (g3 F).trans (h3 F), fun F => (g4 F).trans (h4 F), fun F => (g5 F).trans (h5 F), fun F => (g6 F).trans (h6 F), fun F => (g7 F).trans (h7 F), fun F => (g8 F).trans (h8 F)⟩
theorem oAg.sub {P' : Nat → Prop} (h : oAg P S S') (hP : ∀ a, P' a → P a) : oAg P' S S' := fun a ha => h a (hP a ha)
theorem oAg_sI {F a : Nat} {v : Int32} (h : ¬ P a) : oAg P S (S.sI F a v) := fun q hq => ⟨rfl, rfl, fun G => ox_u2_ne (fun e => h (e.2 ▸ hq)), fun _ => rfl, fun _ => rfl, fun _ => rfl, fun _ => rfl, fun _ => rfl⟩
theorem oAg_sR {F a v : Nat} (h : ¬ P a) : oAg P S (S.sR F a v) := fun q hq => ⟨rfl, rfl, fun _ => rfl, fun G => ox_u2_ne (fun e => h (e.2 ▸ hq)), fun _ => rfl, fun _ => rfl, fun _ => rfl, fun _ => rfl⟩
theorem oAg_sJ {F a : Nat} {v : Int64} (h : ¬ P a) : oAg P S (S.sJ F a v) := fun q hq => ⟨rfl, rfl, fun _ => rfl, fun _ => rfl, fun G => ox_u2_ne (fun e => h (e.2 ▸ hq)), fun _ => rfl, fun _ => rfl, fun _ => rfl⟩
theorem oAg_wI {a i : Nat} {v : Int32} (h : ¬ P a) : oAg P S (S.wI a i v) := fun q hq => ⟨rfl, rfl, fun _ => rfl, fun _ => rfl, fun _ => rfl, fun j => ox_u2_ne (fun e => h (e.1 ▸ hq)), fun _ => rfl, fun _ => rfl⟩
theorem oAg_wR {a i v : Nat} (h : ¬ P a) : oAg P S (S.wR a i v) := fun q hq => ⟨rfl, rfl, fun _ => rfl, fun _ => rfl, fun _ => rfl, fun _ => rfl, fun j => ox_u2_ne (fun e => h (e.1 ▸ hq)), fun _ => rfl⟩
theorem oAg_wJ {a i : Nat} {v : Int64} (h : ¬ P a) : oAg P S (S.wJ a i v) := fun q hq => ⟨rfl, rfl, fun _ => rfl, fun _ => rfl, fun _ => rfl, fun _ => rfl, fun _ => rfl, fun j => ox_u2_ne (fun e => h (e.1 ▸ hq))⟩
theorem oAg_newO {κ : Nat} (h : ¬ P S.n) : oAg P S (S.newO κ) := fun q hq => by
  have e : ¬ q = S.n := fun e => h (e ▸ hq)
  exact ⟨if_neg e, rfl, fun _ => if_neg e, fun _ => if_neg e, fun _ => if_neg e, fun _ => rfl, fun _ => rfl, fun _ => rfl⟩
theorem oAg_newA {κ N : Nat} (h : ¬ P S.n) : oAg P S (S.newA κ N) := fun q hq => by
  have e : ¬ q = S.n := fun e => h (e ▸ hq)
  exact ⟨if_neg e, if_neg e, fun _ => rfl, fun _ => rfl, fun _ => rfl, fun _ => if_neg e, fun _ => if_neg e, fun _ => if_neg e⟩
theorem oAg_nn {n : Nat} : oAg P S (S.nn n) := fun _ _ => ⟨rfl, rfl, fun _ => rfl, fun _ => rfl, fun _ => rfl, fun _ => rfl, fun _ => rfl, fun _ => rfl⟩
theorem oAg_scr {x0 L : Nat} {xs : Nat → Int32} (h : oAg P S S') (hP : P x0) (hs : lw_scr x0 L xs S) : lw_scr x0 L xs S' := by
  obtain ⟨h1, h2, -, -, -, h6, -⟩ := h x0 hP
  exact ⟨h1.trans hs.1, h2.trans hs.2.1, fun j hj => (h6 j).trans (hs.2.2 j hj)⟩
end OAG
/-! feed: the word's bytes go onto the tape, the highest first -/
def oBy (w : Int32) (k : Nat) : Int32 := ((Int32.toUInt32 w >>> (Int32.toUInt32 (8 * nI k) &&& Int32.toUInt32 31)).toInt32) &&& 255
def mBy (w : Int32) (k : Nat) : Int32 := (w >>> ((8 * nI k) &&& 31)) &&& 255
/-- B's bytes k - 1 .. 0 written at t from place e on; the count in field F of x -/
def oFd (F x t : Nat) (B : Nat → Int32) : Nat → Nat → ox_St → ox_St
  | _, 0, S => S
  | e, k + 1, S => oFd F x t B (e + 1) k ((S.wI t e (B k)).sI F x (nI (e + 1)))
theorem oFd_ag {P : Nat → Prop} {F x t : Nat} {B : Nat → Int32} (hx : ¬ P x) (ht : ¬ P t) : ∀ (k e : Nat) (S : ox_St), oAg P S (oFd F x t B e k S)
  | 0, _, _ => oAg.refl
  | k + 1, e, S => ((oAg_wI ht).trans (oAg_sI hx)).trans (oFd_ag hx ht k (e + 1) _)
section OFD
variable {sp : ox_E} {d mr sr : Nat} {S : ox_St} {Q : ox_Q} {x t : Nat}
theorem s_95_28 {E : ox_E} (hE : ox_mono E) {w n : Int32} (hxt : x ≠ t) : ∀ (k e : Nat) (S : ox_St), S.K x = 13 → S.R 60 x = t → S.K t = 15 → S.len t = 800 → S.I 61 x = nI e → e + k ≤ 800 → Q (some (.inl (nI (e + k)))) (oFd 61 x t (oBy w) e k S) → c_95_28 E x w n (nI k - 1) S mr sr Q
  | 0, e, S, h1, h2, h3, h4, h5, h6, hQ => by
    refine f_95_28 hE ?_
    refine ⟨fun _ => ⟨by rw [h1]; rfl, trivial, ?_⟩, fun q => absurd (by decide) q⟩
    rw [h5]
    exact hQ
  | k + 1, e, S, h1, h2, h3, h4, h5, h6, hQ => by
    rw [nI_pred]
    refine f_95_28 hE ?_
    refine ⟨fun q => absurd q (nI_pos (by omega)), fun _ => ⟨by rw [h1]; rfl, by rw [h1]; rfl, by rw [h2]; exact h3, by rw [h2, h5, h4]; exact vp_in_nI (by omega) (by omega), ?_⟩⟩
    intro S1
    have e1 : S1 = S.wI t e (oBy w k) := by
      show S.wI (S.R 60 x) (Int32.toNatClampNeg (S.I 61 x)) _ = _
      rw [h2, h5, nI_clamp (by omega)]
      rfl
    refine ⟨by show ox_has (S.K x) 61 = true; rw [h1]; rfl, by show ox_has (S.K x) 61 = true; rw [h1]; rfl, ?_⟩
    intro S2
    have e2 : S2 = (S.wI t e (oBy w k)).sI 61 x (nI (e + 1)) := by
      show S1.sI 61 x (S1.I 61 x + 1) = _
      rw [e1, or_wI_I, h5, nI_1]
    rw [show nI k + (-1) = nI k - 1 from by rw [Int32.sub_eq_add_neg], e2]
    refine s_95_28 hE hxt k (e + 1) _ h1 h2 h3 h4 (by rw [or_sI_I, if_pos ⟨rfl, rfl⟩]) (by omega) ?_
    rw [show e + 1 + k = e + (k + 1) by omega]
    exact hQ
theorem s_95 (hsp : ox_mono sp) {w n : Int32} {e : Nat} (hxt : x ≠ t) (h1 : S.K x = 13) (h2 : S.R 60 x = t) (h3 : S.K t = 15) (h4 : S.len t = 800) (h5 : S.I 61 x = nI e) (h6 : e ≤ 800) (hQ1 : (∀ k, n = nI k → 1 ≤ k → k ≤ 4 → 800 < e + k) → Q (some (.inl (-1))) S) (hQ2 : ∀ k, n = nI k → 1 ≤ k → k ≤ 4 → e + k ≤ 800 → Q (some (.inl (nI (e + k)))) (oFd 61 x t (oBy w) e k S)) : ox_M sp (d + 1) 95 [.inr (.inr x), .inl w, .inl n] mr sr S Q := by
  refine f_95 hsp ?_
  refine ⟨fun q => ⟨trivial, hQ1 (fun k hk k1 k4 => ?_)⟩, fun q1 => ⟨fun q => ⟨trivial, hQ1 (fun k hk k1 k4 => ?_)⟩, fun q2 => ⟨by rw [h1]; rfl, fun q3 => ?_, fun q3 => ⟨trivial, hQ1 (fun k hk k1 k4 => ?_)⟩⟩⟩⟩
  · rw [hk] at q
    exact absurd q (nI_nlt (b := 1) k1 (by omega))
  · rw [hk] at q
    exact absurd q (nI_nlt (a := 4) k4 (by omega))
  · intro w1
    obtain ⟨k, hk, rfl⟩ := nI_of (x := n) (fun q => q1 (Int32.lt_trans q (by decide)))
    have k1 : 1 ≤ k := Nat.not_lt.mp fun q => q1 (nI_lt (b := 1) q (by decide))
    have k4 : k ≤ 4 := Nat.not_lt.mp fun q => q2 (nI_lt (a := 4) q hk)
    rw [h5, nI_add] at q3
    have hle := (nI_leI (b := 800) (by omega) (by decide)).mp q3
    exact s_95_28 (ox_M_mono hsp _) hxt k e S h1 h2 h3 h4 h5 hle (hQ2 k rfl k1 k4 hle)
  · rw [h5, hk, nI_add] at q3
    exact Nat.not_le.mp fun z => q3 ((nI_leI (b := 800) (by omega) (by decide)).mpr z)
theorem s_128_33 {E : ox_E} (hE : ox_mono E) {w n : Int32} (hxt : x ≠ t) : ∀ (k e : Nat) (S : ox_St), S.K x = 14 → S.R 71 x = t → S.K t = 15 → S.len t = 800 → S.I 72 x = nI e → e + k ≤ 800 → Q (some (.inl (nI (e + k)))) (oFd 72 x t (mBy w) e k S) → c_128_33 E x w n (nI k - 1) S mr sr Q
  | 0, e, S, h1, h2, h3, h4, h5, h6, hQ => by
    refine f_128_33 hE ?_
    refine ⟨fun _ => ⟨by rw [h1]; rfl, trivial, ?_⟩, fun q => absurd (by decide) q⟩
    rw [h5]
    exact hQ
  | k + 1, e, S, h1, h2, h3, h4, h5, h6, hQ => by
    rw [nI_pred]
    refine f_128_33 hE ?_
    refine ⟨fun q => absurd q (nI_pos (by omega)), fun _ => ⟨by rw [h1]; rfl, by rw [h1]; rfl, by rw [h2]; exact h3, by rw [h2, h5, h4]; exact vp_in_nI (by omega) (by omega), ?_⟩⟩
    intro S1
    have e1 : S1 = S.wI t e (mBy w k) := by
      show S.wI (S.R 71 x) (Int32.toNatClampNeg (S.I 72 x)) _ = _
      rw [h2, h5, nI_clamp (by omega)]
      rfl
    refine ⟨by show ox_has (S.K x) 72 = true; rw [h1]; rfl, by show ox_has (S.K x) 72 = true; rw [h1]; rfl, ?_⟩
    intro S2
    have e2 : S2 = (S.wI t e (mBy w k)).sI 72 x (nI (e + 1)) := by
      show S1.sI 72 x (S1.I 72 x + 1) = _
      rw [e1, or_wI_I, h5, nI_1]
    rw [show nI k + (-1) = nI k - 1 from by rw [Int32.sub_eq_add_neg], e2]
    refine s_128_33 hE hxt k (e + 1) _ h1 h2 h3 h4 (by rw [or_sI_I, if_pos ⟨rfl, rfl⟩]) (by omega) ?_
    rw [show e + 1 + k = e + (k + 1) by omega]
    exact hQ
theorem s_128 (hsp : ox_mono sp) {w n : Int32} {e : Nat} (hxt : x ≠ t) (h1 : S.K x = 14) (h2 : S.R 71 x = t) (h3 : S.K t = 15) (h4 : S.len t = 800) (h5 : S.I 72 x = nI e) (h6 : e ≤ 800) (hQ1 : (∀ k, n = nI k → 1 ≤ k → k ≤ 4 → 800 < e + k) → Q (some (.inl (-1))) (S.sI 69 x 0)) (hQ2 : ∀ k, n = nI k → 1 ≤ k → k ≤ 4 → e + k ≤ 800 → Q (some (.inl (nI (e + k)))) (oFd 72 x t (mBy w) e k (S.sI 69 x 0))) : ox_M sp (d + 1) 128 [.inr (.inr x), .inl w, .inl n] mr sr S Q := by
  refine f_128 hsp ?_
  refine ⟨by rw [h1]; rfl, ?_⟩
  have h5' : (S.sI 69 x 0).I 72 x = nI e := by rw [or_sI_I, if_neg (fun z => by cases z.1)]; exact h5
  refine ⟨fun q => ⟨trivial, hQ1 (fun k hk k1 k4 => ?_)⟩, fun q1 => ⟨fun q => ⟨trivial, hQ1 (fun k hk k1 k4 => ?_)⟩, fun q2 => ⟨by show ox_has (S.K x) 72 = true; rw [h1]; rfl, fun q3 => ?_, fun q3 => ⟨trivial, hQ1 (fun k hk k1 k4 => ?_)⟩⟩⟩⟩
  · rw [hk] at q
    exact absurd q (nI_nlt (b := 1) k1 (by omega))
  · rw [hk] at q
    exact absurd q (nI_nlt (a := 4) k4 (by omega))
  · intro w1
    obtain ⟨k, hk, rfl⟩ := nI_of (x := n) (fun q => q1 (Int32.lt_trans q (by decide)))
    have k1 : 1 ≤ k := Nat.not_lt.mp fun q => q1 (nI_lt (b := 1) q (by decide))
    have k4 : k ≤ 4 := Nat.not_lt.mp fun q => q2 (nI_lt (a := 4) q hk)
    rw [h5', nI_add] at q3
    have hle := (nI_leI (b := 800) (by omega) (by decide)).mp q3
    exact s_128_33 (ox_M_mono hsp _) hxt k e _ h1 h2 h3 h4 h5' hle (hQ2 k rfl k1 k4 hle)
  · rw [h5', hk, nI_add] at q3
    exact Nat.not_le.mp fun z => q3 ((nI_leI (b := 800) (by omega) (by decide)).mpr z)
end OFD
