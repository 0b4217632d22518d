/-! the reference: global -/
theorem bv_sh (b y z : BitVec 64) (s : Nat) (hy : y.toNat = s) (hz : z.toNat = s) (hs : s ≤ 56) : (b.sshiftRight' y) &&& 255#64 = (b >>> z) &&& 255#64 := by
  have h255 : ∀ j : Fin 64, 8 ≤ j.1 → (255#64).getLsbD j.1 = false := by decide
  refine BitVec.eq_of_getLsbD_eq (fun j hj => ?_)
  rw [BitVec.getLsbD_and, BitVec.getLsbD_and]
  by_cases j8 : j < 8
  · rw [BitVec.getLsbD_sshiftRight', BitVec.ushiftRight_eq', BitVec.getLsbD_ushiftRight, hy, hz, if_pos (by omega), decide_eq_false (by omega)]
    rfl
  · rw [h255 ⟨j, hj⟩ (show 8 ≤ j by omega), Bool.and_false, Bool.and_false]
theorem wz_eq (x : Int64) (i : Nat) (hi : i < 8) : (x >>> (Int32.toInt64 (nI (8 * i)) &&& 63)) &&& 255 = wzB x i := by
  have e : ∀ i : Fin 8, ((Int32.toInt64 (nI (8 * i.1)) &&& 63).toBitVec.smod 64).toNat = 8 * i.1 ∧ (((Int32.toInt64 (8 * nI i.1)).toUInt64 &&& Int64.toUInt64 63).toBitVec % 64).toNat = 8 * i.1 := by decide
  obtain ⟨e1, e2⟩ := e ⟨i, hi⟩
  unfold wzB
  refine Int64.toBitVec_inj.mp ?_
  rw [Int64.toBitVec_and, Int64.toBitVec_and, Int64.toBitVec_shiftRight, UInt64.toBitVec_toInt64, UInt64.toBitVec_shiftRight, Int64.toBitVec_toUInt64]
  exact bv_sh _ _ _ (8 * i) e1 e2 (by omega)
section RGb
variable {sp : ox_E} {d mr sr : Nat} {S S' : ox_St} {Q : ox_Q} {m ce : Nat} {γ : Int → Nat} {B : List Int} {T : Nat} {C : Nat → xCd} {nc K y : Nat} {s : xSt}
theorem r_211_l {E : ox_E} (hE : ox_mono E) {x : Int64} {x3 : Int32} (hQ : ∀ mr sr x6, x6 < 0 → ∀ o, o = wzL x 8 0 → q_211_12 E m x x3 o x6 S mr sr Q) : ∀ (i mr sr : Nat) (o : Int64), i ≤ 8 → wzL x i o = wzL x 8 0 → c_211_12 E m x x3 o (nI (8 * i) - 8) S mr sr Q
  | 0, mr, sr, o, _, h => f_211_12 hE (hQ mr sr _ (by decide) o h)
  | i + 1, mr, sr, o, hi, h => by
    have e1 : nI (8 * (i + 1)) - 8 = nI (8 * i) := by
      rw [show (8 : Int32) = nI 8 from rfl, pk_sub (by omega)]
      exact congrArg nI (by omega)
    have e2 : nI (8 * i) + (-8) = nI (8 * i) - 8 := by rw [Int32.sub_eq_add_neg]
    have wb := wz_eq x i (by omega)
    have h' : wzL x i (if wzB x i = 0 then o else (o <<< (Int32.toInt64 8 &&& 63)) ||| wzB x i) = wzL x 8 0 := h
    rw [e1]
    refine f_211_12 hE ⟨fun z => absurd z (nI_pos (by omega)), fun _ => ?_⟩
    rw [wb, e2]
    refine ⟨fun z => ?_, fun z => ?_⟩
    · have z' : ¬ wzB x i = 0 := fun y => z ((lg_cmp_eq _ _).mpr y)
      rw [if_neg z'] at h'
      exact r_211_l hE hQ i mr sr _ (by omega) h'
    · have z' : wzB x i = 0 := (lg_cmp_eq _ _).mp z
      rw [if_pos z'] at h'
      exact r_211_l hE hQ i mr sr _ (by omega) h'
theorem r_211 (hsp : ox_mono sp) {j : Int64} {w : Int32} (h : rR S m ce γ B T C nc y s) (hw : xWf C nc K s) (hQ : ∀ S', w41 m (S.sI 69 m 0) S' → Q (some (.inl (xTell (xRow0 C s.H (xGetL (wzL j 8 0) s.G)) w))) S') : ox_M sp (d + 4) 211 [.inr (.inr m), .inr (.inl j), .inl w] mr sr S Q := by
  have hE : ox_mono (ox_M sp (d + 3)) := ox_M_mono hsp _
  have k14 : S.K m = 14 := h.1.1
  have n1 := h.s69 hw.fl (v := 0)
  refine f_211 hsp ⟨by rw [k14]; rfl, ?_⟩
  generalize S.sI 69 m 0 = U at n1 hQ ⊢
  have kU : U.K m = 14 := n1.1.1
  have hG : rGl U m γ s.G := n1.2.2.2.2.1
  have gok := hw.2.2.1
  have g16 : s.G.length ≤ 16 := gok.1
  obtain ⟨b1, b2, b3⟩ := n1.1.row (F := 108) (o := 25) (k := 15) (n := 16) (by decide)
  show c_211_12 (ox_M sp (d + 3)) m j w 0 (nI (8 * 8) - 8) U mr sr Q
  refine r_211_l hE (fun mr sr x6 hx o ho => ?_) 8 mr sr 0 (Nat.le_refl _) rfl
  refine ⟨fun _ => ⟨by decide, kU, by decide, 0, 0, Nat.zero_le _, Nat.zero_le _, r_188 hsp n1.1 hG g16 (f_211_63 hE ?_)⟩, fun z => absurd hx z⟩
  have fg := xGetL_find (w := o) s.G
  rw [← ho] at hQ
  by_cases z : xFindL o s.G < s.G.length
  · rw [if_pos z] at fg ⊢
    rw [fg] at hQ
    have mem : s.G.getD (xFindL o s.G) (0, 0) ∈ s.G := by rw [List.getD_eq_getElem?_getD, List.getElem?_eq_getElem z]; exact List.getElem_mem z
    have ok := (gok.2 _ mem).2
    have hB : xIn B (s.G.getD (xFindL o s.G) (0, 0)).2 := n1.2.2.2.2.2.2.1.2 _ mem
    have row := (hG.2 _ z).2
    refine ⟨fun _ => ⟨by rw [kU]; rfl, by rw [b1, b2]; rfl, by rw [b1, b3]; exact vp_in_nI (by omega) (by decide), by decide, kU, by decide, 0, 0, Nat.zero_le _, Nat.zero_le _, ?_⟩, fun y => absurd (nI_le (a := 0) (Nat.zero_le _) (by omega)) y⟩
    rw [b1, nI_clamp (show xFindL o s.G < 2 ^ 31 by omega), row]
    exact r_206 hsp n1.vals hw.1 ok hB (fun S' hS => f_211_86 hE ⟨trivial, hQ S' hS⟩)
  · rw [if_neg z] at fg ⊢
    rw [fg] at hQ
    refine ⟨fun y => absurd y (by decide), fun _ => f_211_86 hE ⟨trivial, ?_⟩⟩
    have := hQ U w41.refl
    rw [show xRow0 C s.H none = [] from rfl, xTell_0] at this
    exact this
end RGb
