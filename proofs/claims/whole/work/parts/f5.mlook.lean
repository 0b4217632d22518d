/-! the reference reads: the codes are looked at -/
def bkW (V : ox_St) (m : Nat) (w1 w2 w3 w4 : Int32) : ox_St := (((V.sI 76 m w1).sI 86 m w2).sI 87 m w3).sI 88 m w4
section LK
variable {sp : ox_E} {d mr sr : Nat} {Q : ox_Q} {m ce : Nat} {V V0 : ox_St} {w1 w2 w3 w4 : Int32} {C : Nat → xCd} {l : List Nat}
theorem r161_e {E : ox_E} (hE : ox_mono E) (hk : V.K m = 14) (i69 : V.I 69 m = 1 ∨ V.I 69 m = 2) {x5 : Int32} (hQ : Q none (bkW V m w1 w2 w3 w4)) : c_161_155 E m w1 w2 w3 w4 x5 V mr sr Q := by
  have n0 : ¬ V.I 69 m = 0 := fun z => by rcases i69 with w | w <;> rw [w] at z <;> exact absurd z (by decide)
  have nl : ¬ V.I 69 m ≤ 0 := fun z => by rcases i69 with w | w <;> rw [w] at z <;> exact absurd z (by decide)
  have h69 : ox_has (V.K m) 69 = true := by rw [hk]; rfl
  have h76 : ox_has (V.K m) 76 = true := by rw [hk]; rfl
  have h86 : ox_has ((V.sI 76 m w1).K m) 86 = true := by rw [or_sI_K, hk]; rfl
  have h87 : ox_has (((V.sI 76 m w1).sI 86 m w2).K m) 87 = true := by rw [or_sI_K, or_sI_K, hk]; rfl
  have h88 : ox_has ((((V.sI 76 m w1).sI 86 m w2).sI 87 m w3).K m) 88 = true := by rw [or_sI_K, or_sI_K, or_sI_K, hk]; rfl
  exact f_161_155 hE ⟨by rw [hk]; rfl, fun _ => ⟨h69, fun z => absurd z nl, fun _ => ⟨h76, h86, h87, h88, rfl, hQ⟩⟩, fun _ => ⟨h69, fun _ => ⟨h69, fun z => absurd z nl, fun _ => ⟨h76, h86, h87, h88, rfl, hQ⟩⟩, fun z => absurd z n0⟩⟩
theorem r161_l (hsp : ox_mono sp) (ml : oML V0 m ce) (ll : l.length < 300) (i124 : V0.I 124 m = nI l.length) (i69 : V0.I 69 m = 0) (r35 : ∀ j, j < l.length → V0.rI (m + 35) j = nI (l.getD j 0)) (hs : ∀ c ∈ l, ∃ g, mSh V0 m c g (C c).1)
    (hQ1 : (∀ c ∈ l, ∃ T, okT (C c).1 T) → ∀ V mr sr x5, mlF m V0 V → ox_M sp (d + 7) 171 [.inr (.inr m)] 0 0 (V.sI 96 m ((-1) - V0.I 125 m)) (k_161_252 (ox_M sp (d + 7)) m w1 w2 w3 w4 x5 mr sr Q))
    (hQ0 : ∀ V j, j < l.length → (∀ i, i < j → ∃ T, okT (C (l.getD i 0)).1 T) → ¬ (∃ T, okT (C (l.getD j 0)).1 T) → mlF m V0 V → Q none (bkW ((V.sI 69 m 2).sI 70 m (nI (1000 * j))) m w1 w2 w3 w4)) : ∀ (r j mr sr : Nat) (V : ox_St), j + r = l.length → mlF m V0 V → (∀ i, i < j → ∃ T, okT (C (l.getD i 0)).1 T) → c_161_155 (ox_M sp (d + 7)) m w1 w2 w3 w4 (nI j) V mr sr Q := by
  have hE : ox_mono (ox_M sp (d + 7)) := ox_M_mono hsp _
  have vI : ∀ V, mlF m V0 V → ∀ F, F < 138 → V.I F m = V0.I F m := fun V f F hF => f.2.2.2.2.2.2.2.1 F m (Or.inr (Or.inl hF))
  intro r
  induction r with
  | zero =>
    intro j mr sr V hj f hok
    have hj' : j = l.length := hj
    have k14 : V.K m = 14 := by rw [f.1]; exact ml.1
    have all : ∀ c ∈ l, ∃ T, okT (C c).1 T := fun c hc => by
      obtain ⟨i, hi, e⟩ := List.getElem_of_mem hc
      have := hok i (by omega)
      rw [List.getD_eq_getElem?_getD, List.getElem?_eq_getElem hi] at this
      rw [← e]
      exact this
    refine f_161_155 hE ⟨by rw [k14]; rfl, fun _ => ⟨by rw [k14]; rfl, fun _ => ⟨by rw [k14]; rfl, by rw [k14]; rfl, by decide, by rw [or_sI_K]; exact k14, by decide, 0, 0, Nat.zero_le _, Nat.zero_le _, ?_⟩, fun z => absurd (by rw [vI V f 69 (by decide), i69]; decide) z⟩, fun z => absurd (by rw [vI V f 124 (by decide), i124, hj']; exact nI_le (Nat.le_refl _) (by omega)) z⟩
    rw [vI V f 125 (by decide)]
    exact hQ1 all V _ _ _ f
  | succ r ih =>
    intro j mr sr V hj f hok
    have k14 : V.K m = 14 := by rw [f.1]; exact ml.1
    have mlV : oML V m ce := ml.next f.1 f.2.1 (fun F => by rw [f.2.2.2.1])
    obtain ⟨a1, a2, a3⟩ := mlV.row (F := 131) (o := 35) (k := 15) (n := 300) (by decide +kernel)
    have e124 : V.I 124 m = nI l.length := (vI V f 124 (by decide)).trans i124
    have e69 : V.I 69 m = 0 := (vI V f 69 (by decide)).trans i69
    refine f_161_155 hE ⟨by rw [k14]; rfl, fun z => ?_, fun _ => ⟨by rw [k14]; rfl, fun z => absurd e69 z, fun _ => ?_⟩⟩
    · rw [e124] at z
      exact absurd z (nI_ge (by omega) (by omega))
    · rw [k14, a1, a2, a3, nI_clamp (n := j) (by omega), f.2.2.2.2.2.2.2.2 _ (by omega), r35 j (by omega)]
      refine ⟨rfl, rfl, vp_in_nI (by omega) (by decide), by decide, rfl, by decide, 0, 0, Nat.zero_le _, Nat.zero_le _, ?_⟩
      have mem : l.getD j 0 ∈ l := by rw [List.getD_eq_getElem?_getD, List.getElem?_eq_getElem (by omega)]; exact List.getElem_mem _
      obtain ⟨g, hg⟩ := hs _ mem
      refine s_170 hsp mlV (hg.lf f) (fun S' f' ok => f_161_182 hE ⟨fun z => absurd z (by decide), fun _ => ?_⟩) (fun S' f' bad => f_161_182 hE ⟨fun _ => ?_, fun z => absurd rfl z⟩)
      · rw [nI_1]
        exact ih (j + 1) _ _ S' (by omega) (f.trans f') (fun i hi => by
          by_cases w : i = j
          · rw [w]; exact ok
          · exact hok i (by omega))
      · have ks : S'.K m = 14 := by rw [f'.1]; exact k14
        have e1000 : (1000 : Int32) * nI j = nI (1000 * j) := (Int32.ofNat_mul 1000 j).symm
        rw [e1000]
        refine ⟨by rw [ks]; rfl, by rw [or_sI_K, ks]; rfl, ?_⟩
        refine r161_e hE (by rw [or_sI_K, or_sI_K]; exact ks) (Or.inr ?_) (hQ0 S' j (by omega) hok bad (f.trans f'))
        rw [or_sI_I, if_neg (fun y => absurd y.1 (by decide)), or_sI_I, if_pos ⟨rfl, rfl⟩]
end LK
