/-! the reference reads: one object -/
theorem i_abs (w : Int32) : w.toInt.natAbs ≤ 2147483648 := by
  have := i_bd w
  omega
theorem lgZ_abs (b : Nat → Nat) (p : Nat) : (lgZ b p).natAbs = dv (dgV b (p + 2)) (lgK b p) := by
  unfold lgZ
  by_cases q : 240 ≤ b p
  · rw [if_pos q]; omega
  · rw [if_neg q]; omega
section T2
variable {sp : ox_E} {d mr sr : Nat} {Q : ox_Q} {LH : ox_St → Prop} {i : rFi} {U V : ox_St} {s s' : oTS} {γ : Int → Nat} {B : List Int} {T : Nat} {h h' : pH} {O : List rRc} {Bn Kn Wn Bn' c ph k p : Nat} {its : List Int} {cd : Option Nat} {v : Int}
theorem rG.rm {n n' : Nat} (g : rG i U s γ B T h O Bn Kn Wn n) (r : rRm i.q s.1 T h.c Bn Kn Wn n' O.length h.l.length) : rG i U s γ B T h O Bn Kn Wn n' := ⟨g.1, g.2.1, g.2.2.1, g.2.2.2.1, g.2.2.2.2.1, g.2.2.2.2.2.1, g.2.2.2.2.2.2.1, g.2.2.2.2.2.2.2.1, r⟩
theorem r160_57 (hsp : ox_mono sp) (lm : rLm i.q i.e) (hK : ∀ V, LH V → V.K i.m = 14) (hk : k ≤ 4) (ro : rRO sp d i LH k) (g : rG i U (p + 1, none) γ B T h O Bn Kn Wn (rVp O).length) (rm : rRm i.q p T h.c Bn Kn Wn (rVp O).length O.length h.l.length) (hO : O.length + k + 1 = 5) (hp : p < i.e) (hO1 : O ≠ [] ∨ i.b p = 99) {x1 : Int32}
    (hF : ∀ v, (rdB i.b i.e (rdO i.b i.e k) p h).1.2 = some v → ∀ V, rF i V v → LH V)
    (hD : (rdB i.b i.e (rdO i.b i.e k) p h).1.2 = none → ∀ V γ' B' T' Bn' Kn' Wn', rG i V (rdB i.b i.e (rdO i.b i.e k) p h).1 γ' B' T' (rdB i.b i.e (rdO i.b i.e k) p h).2.1 O Bn' Kn' Wn' ((rVp O).length + 1) → xIn B' (rdB i.b i.e (rdO i.b i.e k) p h).2.2 → rWd sp d i LH (gV γ' (rdB i.b i.e (rdO i.b i.e k) p h).2.2) V)
    (hQ : ∀ V, LH V → Q none V) : k_160_57 (ox_M sp (d + 6)) i.m x1 mr sr Q (some (.inl (nI (i.b p)))) U := by
  have hE : ox_mono (ox_M sp (d + 6)) := ox_M_mono hsp _
  have c23 := g.c23
  have k14 := g.k
  have hb : ∀ j, j < i.e → i.b j < 256 := fun j hj => (g.1.2.2.2.2.2 j hj).2
  have ht := g.1.2.2.2.1 rfl
  have b256 := hb p hp
  have eb : ∀ c : Nat, Int32.toInt (nI (i.b p)) = (c : Int) ↔ i.b p = c := fun c => by
    rw [nI_toInt (by omega)]; omega
  have T16 : 16 ≤ T := g.2.2.1.1.2.2.2.1
  have T11 := g.2.2.1.1.2.2.2.2
  have h75 := g.2.2.1.2.1
  have hH := g.2.2.1.2.2
  obtain ⟨⟨x1', x2'⟩, ⟨x3, x4⟩, ⟨x5, x6⟩, ⟨x7, x8⟩, ⟨x9, x10⟩, x11⟩ := id rm
  obtain ⟨y1, y2, y3, y4, y5⟩ := id lm
  have pe : p + 1 ≤ i.e := ht.2.2.1
  have ne : ∀ c : Nat, c < 1000 → i.b p ≠ c → nI (i.b p) ≠ nI c := fun c hc hn w => hn ((nI_eq (by omega) (by omega)).mp w)
  have back : i.b p ≠ 40 → i.b p ≠ 99 → ∀ (V : ox_St) (mr sr : Nat), LH V → k_160_225 (ox_M sp (d + 6)) i.m x1 (nI (i.b p)) mr sr Q none V := fun z1 z2 V mr sr hV => k160_225 hsp (hK V hV) (ne 40 (by omega) z1) (ne 99 (by omega) z2) (hQ V hV)
  have low : ∀ w : Int, 0 ≤ w → w ≤ 2 → rdB i.b i.e (rdO i.b i.e k) p h = ((p + 1, none), h, w) → rWd sp d i LH (gV γ w) U := fun w w0 w2 e1 => by
    rw [e1] at hD
    exact hD rfl U γ B T Bn Kn Wn (g.rm (rm.go (Nat.le_succ _) (by omega) (by omega))) (Or.inl (show w < 16 by omega))
  have eg : gV (upA γ h.n T) h.n = nI T := by
    unfold gV
    rw [if_neg (by have := hH.1; omega), show upA γ h.n T h.n = T from if_pos rfl]
  refine f_160_57 hE ⟨by rw [k14]; rfl, fun _ => ⟨fun z => ?_, fun n40 => ⟨fun z => ?_, fun n70 => ⟨fun z => ?_, fun n78 => ⟨fun z => ?_, fun n84 => ⟨fun z => ?_, fun n99 => ⟨fun z => ?_, fun n105 => ⟨fun z => ?_, fun n108 => ?_⟩⟩⟩⟩⟩⟩⟩, fun z => absurd ht.2.1 z⟩
  · have z' := (eb 40).mp z
    have k3 : k ≤ 3 := by
      rcases hO1 with w | w
      · have : O.length ≠ 0 := fun y => w (List.length_eq_zero_iff.mp y)
        omega
      · omega
    refine ⟨by decide, k14, by decide, 0, 0, Nat.zero_le _, Nat.zero_le _, rRT hsp lm k3 ro g rm hO z' (by rw [z']; rfl) hF hD hQ⟩
  · have z' := (eb 70).mp z
    refine ⟨by decide, k14, by decide, 0, 0, Nat.zero_le _, Nat.zero_le _, e158 hsp (low 1 (by decide) (by decide) (by unfold rdB; rw [if_neg (by omega), if_pos z'])) (fun V hV => f_160_145 hE (back (by omega) (by omega) V _ _ hV))⟩
  · have z' := (eb 78).mp z
    refine ⟨by decide, k14, by decide, 0, 0, Nat.zero_le _, Nat.zero_le _, e158 hsp (low 0 (by decide) (by decide) (by unfold rdB; rw [if_pos z'])) (fun V hV => f_160_137 hE (back (by omega) (by omega) V _ _ hV))⟩
  · have z' := (eb 84).mp z
    refine ⟨by decide, k14, by decide, 0, 0, Nat.zero_le _, Nat.zero_le _, e158 hsp (low 2 (by decide) (by decide) (by unfold rdB; rw [if_neg (by omega), if_neg (by omega), if_pos z'])) (fun V hV => f_160_153 hE (back (by omega) (by omega) V _ _ hV))⟩
  · have z' := (eb 99).mp z
    refine ⟨by decide, k14, by decide, 0, 0, Nat.zero_le _, Nat.zero_le _, rRC hsp lm hk ro g rm hO z' (by rw [z']; rfl) hF hD hQ⟩
  · have z' := (eb 105).mp z
    have eB : rdB i.b i.e (rdO i.b i.e k) p h = rdN (bwN i.b i.e (p + 1, none) 4) h (nI (ivN i.b (p + 1) 4)).toInt := by
      unfold rdB
      rw [if_neg (by omega), if_neg (by omega), if_neg (by omega), if_pos z']
    rw [eB] at hF hD
    refine ⟨by decide, k14, by decide, 0, 0, Nat.zero_le _, Nat.zero_le _, s_153 hsp g.1 rfl h75 T16 (by omega) (fun U1 S' w c r f1 f2 h75' hn hd h0 hz hN mt => f_160_161 hE ⟨by decide, (mt.nw1 f2).1.1, by decide, 0, 0, Nat.zero_le _, Nat.zero_le _, ?_⟩) (fun S' f1 hz mt => f_160_161 hE ⟨by decide, mt.1.1, by decide, 0, 0, Nat.zero_le _, Nat.zero_le _, ?_⟩)⟩
    · have e1 : rdN (bwN i.b i.e (p + 1, none) 4) h (nI (ivN i.b (p + 1) 4)).toInt = pNew (bwN i.b i.e (p + 1, none) 4) h (.inl (nI (ivN i.b (p + 1) 4)).toInt) := if_pos hz
      rw [e1] at hD
      have e2 : bwN i.b i.e (p + 1, none) 4 = (p + 1 + 4, none) := (bwN_none 4 hz).2.2.2
      rw [e2] at hD mt
      have hN : nv w c r = (nI (ivN i.b (p + 1) 4)).toInt := hN
      have g1 := g.tk (n' := (rVp O).length) f1 mt (by show p + 1 ≤ p + 1 + 4; omega) (by omega) (by omega)
      have hc : c ≤ 3 := by
        rw [mNum_dl hn hd hN]
        exact dl_lt 16 _ 3 (Nat.lt_of_le_of_lt (i_abs _) (by decide))
      have G := g1.num (n' := (rVp O).length + 1) f2.mp (mt.nw1 f2) h75' hn hd h0 hN (Nat.lt_of_le_of_lt (i_abs _) (by decide)) (by omega) (by
        exact ⟨⟨x1', by show _ ≤ _ + (p + 1 + 4); omega⟩, ⟨x3, by show _ ≤ _ + (p + 1 + 4); omega⟩, ⟨x5, by show _ ≤ _ + (p + 1 + 4); omega⟩, ⟨x7, by show _ ≤ _ + (p + 1 + 4); omega⟩, ⟨by omega, by show _ ≤ _ + 2 * (p + 1 + 4); omega⟩, by show _ ≤ p + 1 + 4; omega⟩)
      have hW := hD rfl S' _ _ _ _ _ _ G (Or.inr List.mem_cons_self)
      change rWd sp d i LH (gV (upA γ h.n T) h.n) S' at hW
      rw [eg] at hW
      exact e158 hsp hW (fun V hV => f_160_164 hE (back (by omega) (by omega) V _ _ hV))
    · cases en : (bwN i.b i.e (p + 1, none) 4).2 with
      | none => exact absurd en hz
      | some v =>
        have e1 : rdN (bwN i.b i.e (p + 1, none) 4) h (nI (ivN i.b (p + 1) 4)).toInt = (bwN i.b i.e (p + 1, none) 4, h, 0) := if_neg hz
        rw [e1] at hF
        have mt' : mtS S' i.m i.ce i.b i.e ((bwN i.b i.e (p + 1, none) 4).1, some v) := by rw [← en]; exact mt
        exact e158 hsp (rWd_f hsp mt.1.1 (mt'.2.2.2.2.1 v rfl).1 (hF v en S' (g.tkf f1 mt'))) (fun V hV => f_160_164 hE (back (by omega) (by omega) V _ _ hV))
  · have z' := (eb 108).mp z
    have eB : rdB i.b i.e (rdO i.b i.e k) p h = rdN (lgS i.b i.e (p + 1)) h (lgZ i.b (p + 1)) := by
      unfold rdB
      rw [if_neg (by omega), if_neg (by omega), if_neg (by omega), if_neg (by omega), if_pos z']
    rw [eB] at hF hD
    refine ⟨by decide, k14, by decide, 0, 0, Nat.zero_le _, Nat.zero_le _, s_152 hsp g.1 h75 T16 (by omega) (fun S' w c r f1 mt h75' hn hd h0 hz hN => f_160_172 hE ⟨by decide, mt.1.1, by decide, 0, 0, Nat.zero_le _, Nat.zero_le _, ?_⟩) (fun S' f1 h75' hz mt => f_160_172 hE ⟨by decide, mt.1.1, by decide, 0, 0, Nat.zero_le _, Nat.zero_le _, ?_⟩)⟩
    · have y : (lgS i.b i.e (p + 1)).2 = none := hz
      have e1 : rdN (lgS i.b i.e (p + 1)) h (lgZ i.b (p + 1)) = pNew (lgS i.b i.e (p + 1)) h (.inl (lgZ i.b (p + 1))) := if_pos y
      rw [e1] at hD
      have hC : (lgC i.b i.e (p + 1)).2 = none := by
        by_cases y2 : (lgC i.b i.e (p + 1)).2 = none
        · exact y2
        · have hz' := hz
          rw [lgD_sgn _ y2] at hz'
          exact absurd hz' y2
      obtain ⟨d1, d2, d3⟩ := lgC_none hC
      obtain ⟨-, f2, f3, f4⟩ := lgD_none (by rw [d2]; exact d1) _ hz
      have eL : lgL i.b i.e (p + 1) = lgK i.b (p + 1) := if_pos hC
      have kL : lgK i.b (p + 1) ≤ 16 := by rw [← eL]; exact lgL_le
      have e3 : (lgC i.b i.e (p + 1)).1 = p + 3 := by rw [d2]
      rw [e3] at f2 f3 f4
      have eS : lgS i.b i.e (p + 1) = (p + 3 + 2 * lgL i.b i.e (p + 1), none) := f2
      have mt' : mtS S' i.m i.ce i.b i.e (p + 3 + 2 * lgL i.b i.e (p + 1), none) := by rw [← eS]; exact mt
      rw [eS] at hD
      have dl' : ∀ j, j < lgK i.b (p + 1) → dgV i.b (p + 1 + 2) j < 32768 := fun j hj => by
        have a1 := (f4 j (by rw [eL]; exact hj)).1
        have a2 := hb (p + 3 + 2 * j) (by rw [eL] at f3; omega)
        show i.b (p + 1 + 2 + 2 * j) + 256 * i.b (p + 1 + 2 + 2 * j + 1) < 32768
        rw [show p + 1 + 2 + 2 * j = p + 3 + 2 * j by omega]
        omega
      have lt := dv_lt (lgK i.b (p + 1)) dl'
      have nab := lgZ_abs i.b (p + 1)
      have hN' : nv w c r = lgZ i.b (p + 1) := hN
      have hc : c ≤ lgK i.b (p + 1) := by
        rw [mNum_dl hn hd hN']
        exact dl_lt 16 _ _ (by rw [nab]; exact lt)
      have hab : (lgZ i.b (p + 1)).natAbs < 32768 ^ 16 := by rw [nab]; exact Nat.lt_of_lt_of_le lt (Nat.pow_le_pow_right (by decide) kL)
      have hab' : Unit → (lgZ i.b (p + 1)).natAbs < 32768 ^ 16 := fun _ => hab
      clear hab lt nab
      have G := g.num (n' := (rVp O).length + 1) f1 mt' h75' hn hd h0 hN' (hab' ()) (by omega) (by
        exact ⟨⟨x1', by show _ ≤ _ + (p + 3 + 2 * lgL i.b i.e (p + 1)); omega⟩, ⟨x3, by show _ ≤ _ + (p + 3 + 2 * lgL i.b i.e (p + 1)); omega⟩, ⟨x5, by show _ ≤ _ + (p + 3 + 2 * lgL i.b i.e (p + 1)); omega⟩, ⟨x7, by show _ ≤ _ + (p + 3 + 2 * lgL i.b i.e (p + 1)); omega⟩, ⟨by omega, by show _ ≤ _ + 2 * (p + 3 + 2 * lgL i.b i.e (p + 1)); omega⟩, by show _ ≤ p + 3 + 2 * lgL i.b i.e (p + 1); omega⟩)
      have hW := hD rfl S' _ _ _ _ _ _ G (Or.inr List.mem_cons_self)
      change rWd sp d i LH (gV (upA γ h.n T) h.n) S' at hW
      rw [eg] at hW
      exact e158 hsp hW (fun V hV => f_160_175 hE (back (by omega) (by omega) V _ _ hV))
    · cases en : (lgS i.b i.e (p + 1)).2 with
      | none => exact absurd en hz
      | some v =>
        have e1 : rdN (lgS i.b i.e (p + 1)) h (lgZ i.b (p + 1)) = (lgS i.b i.e (p + 1), h, 0) := if_neg hz
        rw [e1] at hF
        have mt' : mtS S' i.m i.ce i.b i.e ((lgS i.b i.e (p + 1)).1, some v) := by rw [← en]; exact mt
        exact e158 hsp (rWd_f hsp mt.1.1 (mt'.2.2.2.2.1 v rfl).1 (hF v en S' ⟨⟨_, mt'⟩, g.2.1.trans (kR.mp c23 f1 x9), T, h75', x9, T11⟩)) (fun V hV => f_160_175 hE (back (by omega) (by omega) V _ _ hV))
  · have m40 : i.b p ≠ 40 := fun w => n40 ((eb 40).mpr w)
    have m70 : i.b p ≠ 70 := fun w => n70 ((eb 70).mpr w)
    have m78 : i.b p ≠ 78 := fun w => n78 ((eb 78).mpr w)
    have m84 : i.b p ≠ 84 := fun w => n84 ((eb 84).mpr w)
    have m99 : i.b p ≠ 99 := fun w => n99 ((eb 99).mpr w)
    have m105 : i.b p ≠ 105 := fun w => n105 ((eb 105).mpr w)
    have m108 : i.b p ≠ 108 := fun w => n108 ((eb 108).mpr w)
    have eB : rdB i.b i.e (rdO i.b i.e k) p h = ((p, some p), h, 0) := by
      unfold rdB
      rw [if_neg m78, if_neg m70, if_neg m84, if_neg m105, if_neg m108, if_neg m40, if_neg m99]
    rw [eB] at hF
    refine ⟨by rw [k14]; rfl, by decide, k14, by decide, 0, 0, Nat.zero_le _, Nat.zero_le _, ?_⟩
    have e120 : U.I 120 i.m = nI (p + 1) := ht.1
    rw [e120, nI_pred]
    exact s_150 hsp g.1 (fun S' f1 mt => k160_225f hsp mt.1.1 (mt.2.2.2.2.1 p rfl).1 (hQ S' (hF p rfl S' (g.tkf f1 mt))))
end T2
