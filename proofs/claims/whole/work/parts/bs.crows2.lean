/-! the class: a value told as a row of numbers; its views -/
theorem nv_dg {w : Nat → Nat} {c : Nat} {r : Int32} {N : Int} (hd : dc w c) (c16 : c ≤ 16) (hr : r = 0 ∨ r = 1) (h0 : c = 0 → r = 0) (h : nv w c r = N) : sgI N = r ∧ dgF 16 N.natAbs = (List.range c).map w := by
  have key := dgF_dc 16 c w hd c16
  unfold nv at h
  unfold sgI
  rcases hr with y | y
  · rw [if_pos y] at h
    subst h
    exact ⟨by rw [if_neg (by omega), y], by rw [Int.natAbs_natCast]; exact key⟩
  · rw [if_neg (by rw [y]; decide)] at h
    subst h
    have c0 : 0 < c := Nat.pos_of_ne_zero fun z => by have := h0 z; rw [y] at this; exact absurd this (by decide)
    have lo := dc_low hd c0
    have p0 : 0 < 32768 ^ (c - 1) := Nat.pow_pos (by decide)
    exact ⟨by rw [if_pos (by omega), y], by rw [Int.natAbs_neg, Int.natAbs_natCast]; exact key⟩
section CRv
variable {sp : ox_E} {d mr sr : Nat} {S T : ox_St} {Q : ox_Q} {x : Nat} {α : Int → Nat} {C : Nat → xCd} {nc K : Nat} {H : xHp} {n : Int} {A : List Int32} {v : Int}
/-- write -/
theorem c_108 (hsp : ox_mono sp) (hB : cBs S x) (hp : cHp S x α C nc H) (hH : xHOk nc K H n) : ∀ (k mr sr : Nat) (v : Int) (a : Nat) (A : List Int32) (T : ox_St) (Q : ox_Q), k ≤ 5 → xOk nc H v → vC S x α v a → cRw x S T A → (∀ T', cRw x S T' (A ++ xRow C H k v) → Q none T') → ox_M sp (d + k + 2) 108 [.inr (.inr x), .inr (.inr a), .inl (nI (5 - k))] mr sr T Q := by
  intro k
  induction k with
  | zero =>
    intro mr sr v a A T Q _ ok hv h hQ
    refine f_108 hsp ⟨fun z => absurd z hv.1, fun _ => ⟨fun z => absurd z (by decide), fun _ => ⟨rfl, hQ T ?_⟩⟩⟩
    rw [show xRow C H 0 v = [] from rfl, List.append_nil]
    exact h
  | succ k ih =>
    intro mr sr v a A T Q hk ok hv h hQ
    have hE : ox_mono (ox_M sp (d + k + 2)) := ox_M_mono hsp _
    obtain ⟨k1, k2, k3⟩ := cV hB hp hH hv ok
    obtain ⟨-, qK, -, -, -, -, -, qI, -⟩ := id h.1
    have k0 : T.K x = 13 := by rw [qK]; exact hB.1.obj (o := 0) (by decide)
    have t6 : T.I 6 a = Int32.ofInt (xTg H v) := (qI 6 a (Or.inl (by decide))).trans k2
    refine f_108 hsp ⟨fun z => absurd z hv.1, fun _ => ⟨fun _ => ⟨(isV_has (by rw [qK]; exact k3)).1, by decide, k0, by decide, 0, 0, Nat.zero_le _, Nat.zero_le _, ?_⟩, fun z => absurd (nI_le (b := 4) (by omega) (by decide)) z⟩⟩
    rw [t6]
    refine c_110 hsp hB h (fun T1 h1 => f_108_18 hE ?_)
    obtain ⟨-, pK, pl, pR, -, prR, -, pI, pr⟩ := id h1.1
    have k0' : T1.K x = 13 := by rw [pK]; exact hB.1.obj (o := 0) (by decide)
    have K1 : T1.K a = xKd H v := by rw [pK]; exact k1
    have I6 : T1.I 6 a = Int32.ofInt (xTg H v) := (pI 6 a (Or.inl (by decide))).trans k2
    have I7 : T1.I 7 a = S.I 7 a := pI 7 a (Or.inl (by decide))
    have fin : ∀ (mr sr : Nat) (T2 : ox_St) (L : List Int32), xRow C H (k + 1) v = Int32.ofInt (xTg H v) :: L → cRw x S T2 (A ++ [Int32.ofInt (xTg H v)] ++ L) → k_108_187 (ox_M sp (d + k + 2)) x a (nI (5 - (k + 1))) mr sr Q none T2 := fun mr sr T2 L e z => f_108_187 hE ⟨rfl, hQ T2 (by rw [e]; rw [List.append_assoc] at z; exact z)⟩
    have none0 : ∀ L : List Int32, L = [] → cRw x S T1 (A ++ [Int32.ofInt (xTg H v)] ++ L) := fun L e => by rw [e, List.append_nil]; exact h1
    by_cases v0 : v < 0
    · have ek : xKd H v = 3 := if_pos v0
      have et : xTg H v = 10 := if_pos v0
      have er : xRow C H (k + 1) v = Int32.ofInt (xTg H v) :: [nI (cdA (C (-1 - v).toNat).1)] := by
        show _ :: (if v < 0 then _ else _) = _
        rw [if_pos v0]
      have hc : (-1 - v).toNat < nc := by
        rcases ok with y | y
        · omega
        · exact absurd (hH.low (by omega)) y
      have ev : -1 - ((-1 - v).toNat : Int) = v := by omega
      have ea : a = α v := by
        obtain ⟨-, -, -, y⟩ := hv
        rcases y with y | y | y | y | y <;> first | exact y.2 | omega
      obtain ⟨c1, c2, c3, -⟩ := hp.2.1 _ hc
      rw [ev] at c3
      have e7 : T1.I 7 a = nI (cdA (C (-1 - v).toNat).1) := by rw [I7, ea]; exact c3.2.1.1
      rw [ek] at K1
      rw [et] at I6
      unfold q_108_18
      rw [K1, I6, e7]
      refine ⟨Or.inr rfl, fun _ => ⟨Or.inr rfl, fun _ => ⟨Or.inr rfl, fun _ => ⟨rfl, fun z => absurd z (by decide), fun _ => ⟨rfl, fun z => absurd z (by decide), fun _ => ⟨rfl, fun z => absurd (by decide) z, fun _ => ⟨rfl, by decide, k0', by decide, 0, 0, Nat.zero_le _, Nat.zero_le _, c_110 hsp hB h1 (fun T2 h2 => fin _ _ T2 _ er h2)⟩⟩⟩⟩, fun z => absurd (by decide) z⟩, fun z => absurd (by decide) z⟩, fun z => absurd (by decide) z⟩
    by_cases v3 : v ≤ 3
    · have ek : xKd H v = 11 := by unfold xKd; rw [if_neg v0, if_pos (by omega)]
      have er : xRow C H (k + 1) v = Int32.ofInt (xTg H v) :: [] := by
        show _ :: (if v < 0 then _ else _) = _
        rw [if_neg v0, if_pos v3]
      have et : xTg H v = 0 ∨ xTg H v = 1 ∨ xTg H v = 2 ∨ xTg H v = 8 := by
        unfold xTg
        rw [if_neg v0]
        by_cases y : v ≤ 2
        · rw [if_pos y]; omega
        · rw [if_neg y, if_pos (by omega)]; omega
      have n7 : ¬ T1.I 6 a = 7 := by rw [I6]; rcases et with y | y | y | y <;> rw [y] <;> decide
      have n9 : ¬ T1.I 6 a = 9 := by rw [I6]; rcases et with y | y | y | y <;> rw [y] <;> decide
      have n10 : ¬ T1.I 6 a = 10 := by rw [I6]; rcases et with y | y | y | y <;> rw [y] <;> decide
      rw [ek] at K1
      unfold q_108_18
      rw [K1]
      exact ⟨Or.inr rfl, fun _ => ⟨Or.inr rfl, fun _ => ⟨Or.inr rfl, fun _ => ⟨rfl, fun z => absurd z n7, fun _ => ⟨rfl, fun z => absurd z n9, fun _ => ⟨rfl, fun _ => fin _ _ T1 _ er (none0 _ rfl), fun z => absurd z n10⟩⟩⟩, fun z => absurd (by decide) z⟩, fun z => absurd (by decide) z⟩, fun z => absurd (by decide) z⟩
    by_cases v10 : v ≤ 10
    · have ek : xKd H v = 11 := by unfold xKd; rw [if_neg v0, if_pos (by omega)]
      have et : xTg H v = 9 := by unfold xTg; rw [if_neg v0, if_neg (by omega), if_neg (by omega), if_pos v10]
      have er : xRow C H (k + 1) v = Int32.ofInt (xTg H v) :: [nI (v - 4).toNat] := by
        show _ :: (if v < 0 then _ else _) = _
        rw [if_neg v0, if_neg v3, if_pos v10]
      obtain ⟨w, hw⟩ : ∃ w : Nat, v = 4 + w := ⟨(v - 4).toNat, by omega⟩
      have hw7 : w < 7 := by omega
      have ea : a = x + (68 + w) := by
        obtain ⟨-, -, -, y⟩ := hv
        rcases y with y | y | y | y | y <;> omega
      have key : ∀ w, w < 7 → cVt.contains (68 + w, 9, (w : Int)) = true := by decide
      have e7 : T1.I 7 a = nI (v - 4).toNat := by
        rw [I7, ea, (hB.1.val (key w hw7)).2, show (v - 4).toNat = w by omega]
        rfl
      rw [ek] at K1
      rw [et] at I6
      unfold q_108_18
      rw [K1, I6, e7]
      exact ⟨Or.inr rfl, fun _ => ⟨Or.inr rfl, fun _ => ⟨Or.inr rfl, fun _ => ⟨rfl, fun z => absurd z (by decide), fun _ => ⟨rfl, fun _ => ⟨rfl, by decide, k0', by decide, 0, 0, Nat.zero_le _, Nat.zero_le _, c_110 hsp hB h1 (fun T2 h2 => fin _ _ T2 _ er h2)⟩, fun z => absurd (by decide) z⟩⟩, fun z => absurd (by decide) z⟩, fun z => absurd (by decide) z⟩, fun z => absurd (by decide) z⟩
    have ea : a = α v := hv.obj (by omega)
    have er0 : ∀ L, (match H v with
      | some (.inl N) => sgI N :: nI (dgF 16 N.natAbs).length :: (dgF 16 N.natAbs).map nI
      | some (.inr (.inl q)) => nI q.1.length :: q.1.flatMap (xRow C H k)
      | some (.inr (.inr (.inl q))) => [Int32.ofInt q.1, Int32.ofInt q.2.1, Int32.ofInt q.2.2]
      | some (.inr (.inr (.inr (.inl _)))) => []
      | some (.inr (.inr (.inr (.inr c)))) => [nI (cdA (C c).1)]
      | none => []) = L → xRow C H (k + 1) v = Int32.ofInt (xTg H v) :: L := fun L e => by
      show _ :: (if v < 0 then _ else _) = _
      rw [if_neg v0, if_neg v3, if_neg v10]
      exact congrArg _ e
    have ek0 : xKd H v = (match H v with
      | some (.inl _) => 8
      | some (.inr (.inl _)) => 10
      | some (.inr (.inr (.inl _))) => 9
      | some (.inr (.inr (.inr (.inl _)))) => 12
      | some (.inr (.inr (.inr (.inr _)))) => 5
      | none => 0) := by unfold xKd; rw [if_neg v0, if_neg v10]; rfl
    have et0 : xTg H v = (match H v with
      | some (.inl _) => 3
      | some (.inr (.inl _)) => 4
      | some (.inr (.inr (.inl _))) => 5
      | some (.inr (.inr (.inr (.inl _)))) => 6
      | some (.inr (.inr (.inr (.inr _)))) => 7
      | none => 0) := by unfold xTg; rw [if_neg v0, if_neg (by omega), if_neg (by omega), if_neg v10]; rfl
    cases hz : H v with
    | none =>
      rcases ok with y | y
      · omega
      · exact absurd hz y
    | some o =>
      rw [hz] at er0 ek0 et0
      obtain ⟨o1, o2, o3⟩ := hp.1 v o hz
      have ob := (hH.2 v o hz).2.2
      match o, hz, o3, ob, er0, ek0, et0 with
      | .inl N, hz, ⟨t, w, c, r, g1, g2, g3, g4⟩, ob, er0, ek0, et0 =>
        have ek : xKd H v = 8 := ek0
        have er := er0 (sgI N :: nI (dgF 16 N.natAbs).length :: (dgF 16 N.natAbs).map nI) rfl
        rw [ek] at K1
        unfold q_108_18
        rw [K1]
        have tn : t ≠ x + 75 := by have := g4.2; omega
        obtain ⟨s1, s2⟩ := nv_dg g1.2.2.2.1 g1.2.2.1.2.2.1 g1.2.2.2.2.2.1 g1.2.2.2.2.2.2 g2
        refine ⟨Or.inr rfl, fun z => absurd z (by decide), fun _ => ⟨Or.inr rfl, by decide, k0', by decide, 0, 0, Nat.zero_le _, Nat.zero_le _, ?_⟩⟩
        rw [ea]
        refine c_109 hsp hB g1 tn h1 (fun T2 h2 => f_108_35 hE ?_)
        rw [← ea]
        refine fin _ _ T2 _ er ?_
        rw [s1, s2, List.length_map, List.length_range, List.map_map]
        exact h2
      | .inr (.inl q), hz, ⟨t, ⟨t1, t2, t3, t4, t5⟩, g2, g3, g4, g5⟩, ob, er0, ek0, et0 =>
        have ek : xKd H v = 10 := ek0
        have er := er0 (nI q.1.length :: q.1.flatMap (xRow C H k)) rfl
        rw [ek] at K1
        unfold q_108_18
        rw [K1]
        have rT : T1.R 56 a = t := by rw [pR, ea]; exact t2
        have kT : T1.K t = 19 := by rw [pK]; exact t3
        have lT : T1.len t = q.1.length := by rw [pl]; exact t4
        refine ⟨Or.inr rfl, fun _ => ⟨Or.inr rfl, fun z => absurd z (by decide), fun _ => ⟨Or.inr rfl, rfl, by rw [rT, kT]; rfl, by decide, k0', by decide, 0, 0, Nat.zero_le _, Nat.zero_le _, ?_⟩⟩, fun z => absurd (by decide) z⟩
        rw [rT, lT]
        refine c_110 hsp hB h1 (fun T2 h2 => f_108_61 hE ?_)
        show c_108_64 (ox_M sp (d + k + 2)) x a (nI (5 - (k + 1))) a (nI 0) T2 _ _ Q
        have loop : ∀ (m i mr sr : Nat) (T3 : ox_St), i + m = q.1.length → cRw x S T3 (A ++ [Int32.ofInt (xTg H v)] ++ [nI q.1.length] ++ (q.1.take i).flatMap (xRow C H k)) → c_108_64 (ox_M sp (d + k + 2)) x a (nI (5 - (k + 1))) a (nI i) T3 mr sr Q := by
          intro m
          induction m with
          | zero =>
            intro i mr sr T3 hi h3
            have hi' : i = q.1.length := hi
            obtain ⟨-, uK, ul, uR, -⟩ := id h3.1
            have r3 : T3.R 56 a = t := by rw [uR, ea]; exact t2
            refine f_108_64 hE ⟨by rw [uK, ← pK, K1]; rfl, by rw [r3, uK, t3]; rfl, fun _ => fin _ _ T3 _ er ?_, fun z => absurd (by rw [r3, ul, t4, hi']; exact nI_le (Nat.le_refl _) (by omega)) z⟩
            rw [hi', List.take_length, List.append_assoc] at h3
            exact h3
          | succ m ihm =>
            intro i mr sr T3 hi h3
            obtain ⟨-, uK, ul, uR, -, urR, -⟩ := id h3.1
            have r3 : T3.R 56 a = t := by rw [uR, ea]; exact t2
            have k03 : T3.K x = 13 := by rw [uK]; exact hB.1.obj (o := 0) (by decide)
            have hlt : i < q.1.length := by omega
            have split : q.1.flatMap (xRow C H k) = (q.1.take i).flatMap (xRow C H k) ++ (q.1.drop i).flatMap (xRow C H k) := by rw [← List.flatMap_append, List.take_append_drop]
            refine f_108_64 hE ⟨by rw [uK, ← pK, K1]; rfl, by rw [r3, uK, t3]; rfl, fun z => ?_, fun z => ⟨by rw [k03]; rfl, fun y => fin _ _ T3 _ er ?_, fun y => ⟨by rw [uK, ← pK, K1]; rfl, by rw [r3, uK, t3]; rfl, by rw [r3, ul, t4]; exact vp_in_nI hlt (by omega), by decide, k03, by decide, 0, 0, Nat.zero_le _, Nat.zero_le _, ?_⟩⟩⟩
            · rw [r3, ul, t4] at z
              exact absurd z (nI_ge hlt (by omega))
            · rw [h3.2.1] at y
              have := (nI_leI (a := 300) (by decide) (by omega)).mp y
              have h4 := h3.more (by omega) ((q.1.drop i).flatMap (xRow C H k))
              rw [split]
              rw [List.append_assoc, List.append_assoc (A ++ [Int32.ofInt (xTg H v)])] at h4
              exact h4
            · rw [r3, urR, nI_clamp (by omega), nI_1, show 5 - (k + 1) + 1 = 5 - k by omega]
              have oki : xOk nc H (q.1.getD i 0) := ob.2.2.2 _ (by
                rw [List.getD_eq_getElem?_getD, List.getElem?_eq_getElem hlt]
                exact List.getElem_mem hlt)
              refine ih _ _ (q.1.getD i 0) _ _ T3 _ (by omega) oki (g5 i hlt) h3 (fun T4 h4 => f_108_100 hE ?_)
              show c_108_64 (ox_M sp (d + k + 2)) x a (nI (5 - (k + 1))) a (nI i + 1) _ _ _ Q
              rw [nI_1]
              refine ihm (i + 1) _ _ T4 (by omega) ?_
              have e1 : (q.1.take (i + 1)).flatMap (xRow C H k) = (q.1.take i).flatMap (xRow C H k) ++ xRow C H k (q.1.getD i 0) := by
                rw [List.take_succ, List.flatMap_append, List.getElem?_eq_getElem hlt, List.getD_eq_getElem?_getD, List.getElem?_eq_getElem hlt]
                simp
              rw [e1, ← List.append_assoc]
              exact h4
        exact loop q.1.length 0 _ _ T2 (by omega) (by
          rw [List.take_zero, show ([] : List Int).flatMap (xRow C H k) = [] from rfl, List.append_nil]
          exact h2)
      | .inr (.inr (.inl q)), hz, ⟨g1, g2, g3, g4, g5⟩, ob, er0, ek0, et0 =>
        have ek : xKd H v = 9 := ek0
        have er := er0 _ rfl
        rw [ek] at K1
        unfold q_108_18
        rw [K1]
        have i53 : T1.I 53 a = Int32.ofInt q.1 := by rw [pI 53 a (Or.inl (by decide)), ea, ← g3, Int32.ofInt_toInt]
        refine ⟨Or.inr rfl, fun _ => ⟨Or.inr rfl, fun _ => ⟨Or.inr rfl, fun z => absurd z (by decide), fun _ => ⟨Or.inr rfl, rfl, by decide, k0', by decide, 0, 0, Nat.zero_le _, Nat.zero_le _, ?_⟩⟩, fun z => absurd (by decide) z⟩, fun z => absurd (by decide) z⟩
        rw [i53]
        refine c_110 hsp hB h1 (fun T2 h2 => f_108_131 hE ?_)
        obtain ⟨-, uK, -, -, -, -, -, uI, -⟩ := id h2.1
        have k02 : T2.K x = 13 := by rw [uK]; exact hB.1.obj (o := 0) (by decide)
        have i54 : T2.I 54 a = Int32.ofInt q.2.1 := by rw [uI 54 a (Or.inl (by decide)), ea, ← g4, Int32.ofInt_toInt]
        refine ⟨by rw [uK, ← pK, K1]; rfl, by decide, k02, by decide, 0, 0, Nat.zero_le _, Nat.zero_le _, ?_⟩
        rw [i54]
        refine c_110 hsp hB h2 (fun T3 h3 => f_108_140 hE ?_)
        obtain ⟨-, wK, -, -, -, -, -, wI, -⟩ := id h3.1
        have k03 : T3.K x = 13 := by rw [wK]; exact hB.1.obj (o := 0) (by decide)
        have i55 : T3.I 55 a = Int32.ofInt q.2.2 := by rw [wI 55 a (Or.inl (by decide)), ea, ← g5, Int32.ofInt_toInt]
        refine ⟨by rw [wK, ← pK, K1]; rfl, by decide, k03, by decide, 0, 0, Nat.zero_le _, Nat.zero_le _, ?_⟩
        rw [i55]
        refine c_110 hsp hB h3 (fun T4 h4 => f_108_149 hE (fin _ _ T4 _ er ?_))
        rw [List.append_assoc, List.append_assoc] at h4
        exact h4
      | .inr (.inr (.inr (.inl q))), hz, ⟨g1, g2, g3, g4⟩, ob, er0, ek0, et0 =>
        have ek : xKd H v = 12 := ek0
        have et : xTg H v = 6 := et0
        have er := er0 _ rfl
        rw [ek] at K1
        have I6' := I6
        rw [et] at I6'
        unfold q_108_18
        rw [K1, I6']
        exact ⟨Or.inr rfl, fun _ => ⟨Or.inr rfl, fun _ => ⟨Or.inr rfl, fun _ => ⟨rfl, fun z => absurd z (by decide), fun _ => ⟨rfl, fun z => absurd z (by decide), fun _ => ⟨rfl, fun _ => fin _ _ T1 _ er (none0 _ rfl), fun z => absurd z (by decide)⟩⟩⟩, fun z => absurd (by decide) z⟩, fun z => absurd (by decide) z⟩, fun z => absurd (by decide) z⟩
      | .inr (.inr (.inr (.inr c))), hz, ⟨g1, g2, g3, g4⟩, ob, er0, ek0, et0 =>
        have ek : xKd H v = 5 := ek0
        have et : xTg H v = 7 := et0
        have er := er0 _ rfl
        have e7 : T1.I 7 a = nI (cdA (C c).1) := by rw [I7, ea]; exact g4
        rw [ek] at K1
        have I6' := I6
        rw [et] at I6'
        unfold q_108_18
        rw [K1, I6', e7]
        exact ⟨Or.inr rfl, fun _ => ⟨Or.inr rfl, fun _ => ⟨Or.inr rfl, fun _ => ⟨rfl, fun _ => ⟨rfl, by decide, k0', by decide, 0, 0, Nat.zero_le _, Nat.zero_le _, c_110 hsp hB h1 (fun T2 h2 => fin _ _ T2 _ er h2)⟩, fun z => absurd (by decide) z⟩, fun z => absurd (by decide) z⟩, fun z => absurd (by decide) z⟩, fun z => absurd (by decide) z⟩
/-- one number of a row -/
def xTell (L : List Int32) (w : Int32) : Int32 := if w < 0 then -1 else if w < 300 then L.getD w.toNatClampNeg (-1) else -1
/-- the row of what may be nothing -/
def xRow0 (C : Nat → xCd) (H : xHp) (o : Option Int) : List Int32 := match o with
  | none => []
  | some v => xRow C H 5 v
def vC0 (S : ox_St) (x : Nat) (α : Int → Nat) (o : Option Int) (a : Nat) : Prop := match o with
  | none => a = 0
  | some v => vC S x α v a
def xOk0 (nc : Nat) (H : xHp) (o : Option Int) : Prop := ∀ v, o = some v → xOk nc H v
/-- numberOfRow -/
theorem c_107 (hsp : ox_mono sp) (hB : cBs S x) (hp : cHp S x α C nc H) (hH : xHOk nc K H n) {o : Option Int} {a : Nat} {w : Int32} (ok : xOk0 nc H o) (hv : vC0 S x α o a) (hQ : ∀ T, cQ x S T → Q (some (.inl (xTell (xRow0 C H o) w))) T) : ox_M sp (d + 8) 107 [.inr (.inr x), .inr (.inr a), .inl w] mr sr S Q := by
  have hE : ox_mono (ox_M sp (d + 7)) := ox_M_mono hsp _
  have k0 : S.K x = 13 := hB.1.obj (o := 0) (by decide)
  unfold xTell at hQ
  refine f_107 hsp ⟨fun z => ⟨trivial, ?_⟩, fun z => ⟨fun y => ⟨by rw [k0]; rfl, ?_⟩, fun y => ⟨trivial, ?_⟩⟩⟩
  · rw [if_pos z] at hQ; exact hQ S cQ.refl
  · rw [if_neg z, if_pos y] at hQ
    have h0 : cRw x S (S.sI 68 x 0) [] := ⟨cQ.refl.sI, by rw [or_sI_I, if_pos ⟨rfl, rfl⟩]; rfl, fun i _ hi => absurd hi (Nat.not_lt_zero _)⟩
    generalize S.sI 68 x 0 = U at h0 ⊢
    have kU : U.K x = 13 := by rw [h0.1.2.1]; exact k0
    obtain ⟨p, hp0, hpe⟩ : ∃ p : Nat, p < 300 ∧ w = nI p := by
      rw [Int32.lt_iff_toInt_lt] at z y
      have z' : ¬ w.toInt < 0 := z
      have y' : w.toInt < 300 := y
      refine ⟨w.toInt.toNat, by omega, ?_⟩
      have e1 : w = Int32.ofInt w.toInt := (Int32.ofInt_toInt w).symm
      have e2 : w.toInt = (w.toInt.toNat : Int) := by omega
      exact e1.trans (congrArg Int32.ofInt e2)
    subst hpe
    rw [nI_clamp (by omega)] at hQ
    have after : ∀ T L mr sr, cRw x S T L → L = xRow0 C H o → k_107_24 (ox_M sp (d + 7)) x a (nI p) mr sr Q none T := fun T L mr sr hT eL => by
      subst eL
      obtain ⟨q, l, r⟩ := id hT
      have kT : T.K x = 13 := by rw [q.2.1]; exact k0
      have r67 : T.R 67 x = x + 75 := by rw [q.2.2.2.1]; exact hB.1.ref (o := 0) (by decide)
      obtain ⟨k75, l75⟩ := hB.1.row (o := 75) (k := 15) (n := 300) (by decide)
      refine f_107_24 hE ⟨by rw [kT]; rfl, fun u => ⟨trivial, ?_⟩, fun u => ⟨by rw [kT]; rfl, by rw [r67, q.2.1, k75]; rfl, by rw [r67, q.2.2.1, l75]; exact vp_in_nI hp0 (by decide), trivial, ?_⟩⟩
      · rw [l] at u
        have := (nI_leI (by omega) (by omega)).mp u
        have hQ' := hQ T q
        rw [List.getD_eq_getElem?_getD, List.getElem?_eq_none (by omega)] at hQ'
        exact hQ'
      · have lt : p < (xRow0 C H o).length := by
          by_cases b : p < (xRow0 C H o).length
          · exact b
          · exact absurd (by rw [l]; exact nI_le (by omega) (by omega)) u
        rw [r67, nI_clamp (by omega), r p hp0 lt]
        have hQ' := hQ T q
        rw [List.getD_eq_getElem?_getD, List.getElem?_eq_getElem lt] at hQ' ⊢
        exact hQ'
    refine ⟨by decide, kU, by decide, 0, 0, Nat.zero_le _, Nat.zero_le _, ?_⟩
    cases o with
    | none =>
      have a0 : a = 0 := hv
      exact f_108 hsp ⟨fun _ => ⟨rfl, after U [] _ _ h0 rfl⟩, fun u => absurd a0 u⟩
    | some v =>
      refine c_108 (k := 5) (d := d) hsp hB hp hH _ _ v a [] U _ (Nat.le_refl _) (ok v rfl) hv h0 (fun T hT => after T _ _ _ hT ?_)
      rfl
  · rw [if_neg z, if_neg y] at hQ; exact hQ S cQ.refl
end CRv
