/-! the class's values: how they are made -/
theorem isV_at {κ : Nat} (h : ox_isV κ = true) : κ = 3 ∨ κ = 5 ∨ κ = 8 ∨ κ = 9 ∨ κ = 10 ∨ κ = 11 ∨ κ = 12 := by simpa [ox_isV] using h
theorem isV_has {κ : Nat} (h : ox_isV κ = true) : ox_has κ 6 = true ∧ ox_has κ 7 = true := by
  rcases isV_at h with rfl | rfl | rfl | rfl | rfl | rfl | rfl <;> exact ⟨rfl, rfl⟩
/-- tag and number of a value -/
def oV0 (S : ox_St) (a : Nat) (t w : Int32) : ox_St := (S.sI 6 a t).sI 7 a w
theorem oV0_ag {P : Nat → Prop} {S : ox_St} {a : Nat} {t w : Int32} (h : ¬ P a) : oAg P S (oV0 S a t w) := (oAg_sI h).trans (oAg_sI h)
def oMkNum (S : ox_St) (a : Nat) (neg : Int32) (t : Nat) : ox_St := ((oV0 S a 3 0).sI 51 a neg).sR 52 a t
def oMkRange (S : ox_St) (a : Nat) (u v w : Int32) : ox_St := (((oV0 S a 5 0).sI 53 a u).sI 54 a v).sI 55 a w
def oMkWalker (S : ox_St) (a o : Nat) : ox_St := (oV0 S a 6 0).sR 58 a o
def oMkFunction (S : ox_St) (a k : Nat) : ox_St := (oV0 S a 7 (S.I 7 k)).sR 22 a k
def oMkCode (S : ox_St) (a : Nat) (x1 x2 x3 : Int32) (t1 t2 t3 : Nat) : ox_St := (((((oV0 S a 10 x1).sI 8 a x2).sI 9 a x3).sR 10 a t1).sR 11 a t2).sR 12 a t3
/-- the deepest of a row's first i -/
def oDp (S : ox_St) (t : Nat) : Nat → Int32
  | 0 => 0
  | i + 1 => if S.K (S.rR t i) = 10 ∧ ¬ S.I 57 (S.rR t i) ≤ oDp S t i then S.I 57 (S.rR t i) else oDp S t i
def oMkTuple (S : ox_St) (a t : Nat) : ox_St := ((oV0 S a 4 0).sR 56 a t).sI 57 a (oDp S t (S.len t) + 1)
section OMK
variable {sp : ox_E} {d mr sr : Nat} {S : ox_St} {Q : ox_Q} {a : Nat}
theorem s_89 (hsp : ox_mono sp) (ha : a ≠ 0) (hK : ox_isV (S.K a) = true) {t w : Int32} (hQ : Q none (oV0 S a t w)) : ox_M sp (d + 1) 89 [.inr (.inr a), .inl t, .inl w] mr sr S Q :=
  f_89 hsp ⟨ha, by decide, (isV_has hK).1, (isV_has hK).2, rfl, hQ⟩
theorem s_78 (hsp : ox_mono sp) (ha : a ≠ 0) (hK : S.K a = 8) {neg : Int32} (hn : neg = 0 ∨ neg = 1) {t : Nat} (hQ : Q none (oMkNum S a neg t)) : ox_M sp (d + 2) 78 [.inr (.inr a), .inl neg, .inr (.inr t)] mr sr S Q := by
  refine f_78 hsp ⟨by decide, ha, by decide, 0, 0, Nat.zero_le _, Nat.zero_le _, s_89 hsp ha (by rw [hK]; rfl) ?_⟩
  exact f_78_6 (ox_M_mono hsp _) ⟨by show ox_has (S.K a) 51 = true; rw [hK]; rfl, hn, by show ox_has (S.K a) 52 = true; rw [hK]; rfl, rfl, hQ⟩
theorem s_82 (hsp : ox_mono sp) (ha : a ≠ 0) (hK : S.K a = 9) {u v w : Int32} (hQ : Q none (oMkRange S a u v w)) : ox_M sp (d + 2) 82 [.inr (.inr a), .inl u, .inl v, .inl w] mr sr S Q := by
  refine f_82 hsp ⟨by decide, ha, by decide, 0, 0, Nat.zero_le _, Nat.zero_le _, s_89 hsp ha (by rw [hK]; rfl) ?_⟩
  exact f_82_6 (ox_M_mono hsp _) ⟨by show ox_has (S.K a) 53 = true; rw [hK]; rfl, by show ox_has (S.K a) 54 = true; rw [hK]; rfl, by show ox_has (S.K a) 55 = true; rw [hK]; rfl, rfl, hQ⟩
theorem s_92 (hsp : ox_mono sp) (ha : a ≠ 0) (hK : S.K a = 12) {o : Nat} (hQ : Q none (oMkWalker S a o)) : ox_M sp (d + 2) 92 [.inr (.inr a), .inr (.inr o)] mr sr S Q := by
  refine f_92 hsp ⟨by decide, ha, by decide, 0, 0, Nat.zero_le _, Nat.zero_le _, s_89 hsp ha (by rw [hK]; rfl) ?_⟩
  exact f_92_7 (ox_M_mono hsp _) ⟨by show ox_has (S.K a) 58 = true; rw [hK]; rfl, rfl, hQ⟩
theorem s_28 (hsp : ox_mono sp) (ha : a ≠ 0) (hK : S.K a = 5) {k : Nat} (hk : S.K k = 3) (hQ : Q none (oMkFunction S a k)) : ox_M sp (d + 2) 28 [.inr (.inr a), .inr (.inr k)] mr sr S Q := by
  refine f_28 hsp ⟨by rw [hk]; rfl, by decide, ha, by decide, 0, 0, Nat.zero_le _, Nat.zero_le _, s_89 hsp ha (by rw [hK]; rfl) ?_⟩
  exact f_28_10 (ox_M_mono hsp _) ⟨by show ox_has (S.K a) 22 = true; rw [hK]; rfl, rfl, hQ⟩
theorem s_15 (hsp : ox_mono sp) (ha : a ≠ 0) (hK : S.K a = 3) {x1 x2 x3 : Int32} {t1 t2 t3 : Nat} (hQ : Q none (oMkCode S a x1 x2 x3 t1 t2 t3)) : ox_M sp (d + 2) 15 [.inr (.inr a), .inl x1, .inl x2, .inl x3, .inr (.inr t1), .inr (.inr t2), .inr (.inr t3)] mr sr S Q := by
  refine f_15 hsp ⟨by decide, ha, by decide, 0, 0, Nat.zero_le _, Nat.zero_le _, s_89 hsp ha (by rw [hK]; rfl) ?_⟩
  exact f_15_7 (ox_M_mono hsp _) ⟨by show ox_has (S.K a) 8 = true; rw [hK]; rfl, by show ox_has (S.K a) 9 = true; rw [hK]; rfl, by show ox_has (S.K a) 10 = true; rw [hK]; rfl, by show ox_has (S.K a) 11 = true; rw [hK]; rfl, by show ox_has (S.K a) 12 = true; rw [hK]; rfl, rfl, hQ⟩
theorem s_86_15 {E : ox_E} (hE : ox_mono E) {t n : Nat} (hKa : S.K a = 10) (hKt : S.K t = 19) (hlen : S.len t = n) (hn : n < 2 ^ 31) (hv : ∀ i, i < n → S.rR t i = 0 ∨ ox_isV (S.K (S.rR t i)) = true) (h0 : S.K 0 = 0) : ∀ (k i : Nat), i + k = n → Q none (S.sI 57 a (oDp S t n + 1)) → c_86_15 E a t (oDp S t i) (nI i) S mr sr Q
  | 0, i, hk, hQ => by
    refine f_86_15 hE ⟨by rw [hKt]; rfl, fun _ => ⟨by rw [hKa]; rfl, rfl, ?_⟩, fun q => absurd ?_ q⟩
    · rw [show i = n by omega]
      exact hQ
    · rw [hlen]
      exact nI_le (a := n) (by omega) (by omega)
  | k + 1, i, hk, hQ => by
    have c : Int32.toNatClampNeg (nI i) = i := nI_clamp (by omega)
    have ih := s_86_15 hE hKa hKt hlen hn hv h0 k (i + 1) (by omega) hQ
    refine f_86_15 hE ⟨by rw [hKt]; rfl, fun q => absurd q ?_, fun _ => ⟨by rw [hKt]; rfl, by rw [hlen]; exact vp_in_nI (by omega) hn, ?_⟩⟩
    · rw [hlen]
      exact nI_ge (b := n) (by omega) hn
    rw [c, nI_1]
    refine ⟨hv i (by omega), fun q => ?_, fun q => ?_⟩
    · have hne : ¬ S.K (S.rR t i) = 10 := by
        intro z
        rw [z] at q
        exact absurd q (by decide)
      have e : oDp S t (i + 1) = oDp S t i := if_neg (fun z => hne z.1)
      rw [e] at ih
      exact ih
    · have he : S.K (S.rR t i) = 10 := by
        by_cases z : S.K (S.rR t i) = 10
        · exact z
        · exfalso
          refine q ?_
          have hc : [10].contains (S.K (S.rR t i)) = false := by simpa using fun e => z e
          rw [hc]
          rfl
      refine ⟨Or.inr (by rw [he]; rfl), by rw [he]; rfl, fun g => ?_, fun g => ⟨by rw [he]; rfl, ?_⟩⟩
      · have e : oDp S t (i + 1) = oDp S t i := if_neg (fun z => z.2 g)
        rw [e] at ih
        exact ih
      · have e : oDp S t (i + 1) = S.I 57 (S.rR t i) := if_pos ⟨he, g⟩
        rw [e] at ih
        exact ih
theorem s_86 (hsp : ox_mono sp) (ha : a ≠ 0) (hK : S.K a = 10) {t n : Nat} (hKt : S.K t = 19) (hlen : S.len t = n) (hn : n < 2 ^ 31) (hv : ∀ i, i < n → S.rR t i = 0 ∨ ox_isV (S.K (S.rR t i)) = true) (h0 : S.K 0 = 0) (hQ : Q none (oMkTuple S a t)) : ox_M sp (d + 2) 86 [.inr (.inr a), .inr (.inr t)] mr sr S Q := by
  refine f_86 hsp ⟨by decide, ha, by decide, 0, 0, Nat.zero_le _, Nat.zero_le _, s_89 hsp ha (by rw [hK]; rfl) ?_⟩
  refine f_86_6 (ox_M_mono hsp _) ⟨by show ox_has (S.K a) 56 = true; rw [hK]; rfl, ?_⟩
  have e : ∀ i, oDp ((oV0 S a 4 0).sR 56 a t) t i = oDp S t i := by
    intro i
    induction i with
    | zero => rfl
    | succ i ih =>
      have e1 : ((oV0 S a 4 0).sR 56 a t).I 57 (S.rR t i) = S.I 57 (S.rR t i) := by
        show ((S.sI 6 a 4).sI 7 a 0).I 57 (S.rR t i) = _
        rw [or_sI_I, if_neg (fun z => by cases z.1), or_sI_I, if_neg (fun z => by cases z.1)]
      show (if S.K (S.rR t i) = 10 ∧ ¬ ((oV0 S a 4 0).sR 56 a t).I 57 (S.rR t i) ≤ oDp ((oV0 S a 4 0).sR 56 a t) t i then ((oV0 S a 4 0).sR 56 a t).I 57 (S.rR t i) else oDp ((oV0 S a 4 0).sR 56 a t) t i) = _
      rw [ih, e1]
      rfl
  refine s_86_15 (S := (oV0 S a 4 0).sR 56 a t) (ox_M_mono hsp _) hK hKt hlen hn hv h0 n 0 (by omega) ?_
  rw [e]
  unfold oMkTuple at hQ
  rw [hlen] at hQ
  exact hQ
end OMK
